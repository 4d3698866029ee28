/-! ===== BEGIN printed: names, fields, word lists, decode rows ===== -/
def RX0 : String := "TrunkYards$History"
def TX0 : u_T := fun k => match k with
  | 0 => ("TrunkYards$History", "from", "[I", true)
  | 1 => ("TrunkYards$History", "to", "[I", true)
  | 2 => ("TrunkYards$History", "many", "[I", true)
  | _ => ("TrunkYards$History", "noted", "I", false)
def tyX0 : Nat → FieldType := fun k => match k with
  | 0 => .array .int
  | 1 => .array .int
  | 2 => .array .int
  | _ => .int
abbrev wsX00 : List Cond := u_ws RX0 TX0 4
theorem nmX0 : ∀ a, a < 4 → ∀ b, b < 4 → a ≠ b → (TX0 a).2.1 ≠ (TX0 b).2.1 := by decide +kernel
theorem tyX0_ok : ∀ k, k < 4 → parseFieldDescriptor (TX0 k).2.2.1 = some (tyX0 k) := by decide +kernel
abbrev cX0_init : ByteArray := prog_2_method_1_code
def yX0_init : MethodName := ⟨RX0, "<init>", "()V"⟩
abbrev cX0_notePlacing : ByteArray := prog_2_method_2_code
def yX0_notePlacing : MethodName := ⟨RX0, "notePlacing", "(II)V"⟩
abbrev cX0_noteMove : ByteArray := prog_2_method_3_code
def yX0_noteMove : MethodName := ⟨RX0, "noteMove", "(III)V"⟩
abbrev cX0_replay : ByteArray := prog_2_method_4_code
def yX0_replay : MethodName := ⟨RX0, "replay", "(LTrunkYards$Rows;)V"⟩
def RX1 : String := "TrunkYards$Ledger"
def TX1 : u_T := fun k => match k with
  | 0 => ("TrunkYards$Ledger", "customers", "[I", true)
  | 1 => ("TrunkYards$Ledger", "yards", "[I", true)
  | 2 => ("TrunkYards$Ledger", "grains", "[I", true)
  | 3 => ("TrunkYards$Ledger", "standings", "[I", true)
  | 4 => ("TrunkYards$Ledger", "lapseTicks", "[I", true)
  | 5 => ("TrunkYards$Ledger", "sizes", "[I", true)
  | 6 => ("TrunkYards$Ledger", "booked", "[I", true)
  | 7 => ("TrunkYards$Ledger", "bookingOfWagon", "[I", true)
  | _ => ("TrunkYards$Ledger", "count", "I", false)
def tyX1 : Nat → FieldType := fun k => match k with
  | 0 => .array .int
  | 1 => .array .int
  | 2 => .array .int
  | 3 => .array .int
  | 4 => .array .int
  | 5 => .array .int
  | 6 => .array .int
  | 7 => .array .int
  | _ => .int
abbrev wsX10 : List Cond := u_ws RX1 TX1 9
theorem nmX1 : ∀ a, a < 9 → ∀ b, b < 9 → a ≠ b → (TX1 a).2.1 ≠ (TX1 b).2.1 := by decide +kernel
theorem tyX1_ok : ∀ k, k < 9 → parseFieldDescriptor (TX1 k).2.2.1 = some (tyX1 k) := by decide +kernel
abbrev cX1_init : ByteArray := prog_3_method_1_code
def yX1_init : MethodName := ⟨RX1, "<init>", "()V"⟩
abbrev cX1_opened : ByteArray := prog_3_method_2_code
def yX1_opened : MethodName := ⟨RX1, "opened", "()I"⟩
abbrev cX1_isFull : ByteArray := prog_3_method_3_code
def yX1_isFull : MethodName := ⟨RX1, "isFull", "()Z"⟩
abbrev cX1_customer : ByteArray := prog_3_method_4_code
def yX1_customer : MethodName := ⟨RX1, "customer", "(I)I"⟩
abbrev cX1_yard : ByteArray := prog_3_method_5_code
def yX1_yard : MethodName := ⟨RX1, "yard", "(I)I"⟩
abbrev cX1_grain : ByteArray := prog_3_method_6_code
def yX1_grain : MethodName := ⟨RX1, "grain", "(I)I"⟩
abbrev cX1_standing : ByteArray := prog_3_method_7_code
def yX1_standing : MethodName := ⟨RX1, "standing", "(I)I"⟩
abbrev cX1_lapseTick : ByteArray := prog_3_method_8_code
def yX1_lapseTick : MethodName := ⟨RX1, "lapseTick", "(I)I"⟩
abbrev cX1_size : ByteArray := prog_3_method_9_code
def yX1_size : MethodName := ⟨RX1, "size", "(I)I"⟩
abbrev cX1_get : ByteArray := prog_3_method_10_code
def yX1_get : MethodName := ⟨RX1, "get", "(II)I"⟩
abbrev cX1_bookingFor : ByteArray := prog_3_method_11_code
def yX1_bookingFor : MethodName := ⟨RX1, "bookingFor", "(I)I"⟩
abbrev cX1_open : ByteArray := prog_3_method_12_code
def yX1_open : MethodName := ⟨RX1, "open", "(III)I"⟩
abbrev cX1_add : ByteArray := prog_3_method_13_code
def yX1_add : MethodName := ⟨RX1, "add", "(II)V"⟩
abbrev cX1_keep : ByteArray := prog_3_method_14_code
def yX1_keep : MethodName := ⟨RX1, "keep", "(II)V"⟩
abbrev cX1_halve : ByteArray := prog_3_method_15_code
def yX1_halve : MethodName := ⟨RX1, "halve", "(II)V"⟩
abbrev cX1_release : ByteArray := prog_3_method_16_code
def yX1_release : MethodName := ⟨RX1, "release", "(II)V"⟩
abbrev cX1_lapseAll : ByteArray := prog_3_method_17_code
def yX1_lapseAll : MethodName := ⟨RX1, "lapseAll", "(I)I"⟩
def RX2 : String := "TrunkYards$Rows"
def TX2 : u_T := fun k => match k with
  | 0 => ("TrunkYards$Rows", "counts", "[I", true)
  | _ => ("TrunkYards$Rows", "standing", "[I", true)
def tyX2 : Nat → FieldType := fun k => match k with
  | 0 => .array .int
  | _ => .array .int
abbrev wsX20 : List Cond := u_ws RX2 TX2 2
theorem nmX2 : ∀ a, a < 2 → ∀ b, b < 2 → a ≠ b → (TX2 a).2.1 ≠ (TX2 b).2.1 := by decide +kernel
theorem tyX2_ok : ∀ k, k < 2 → parseFieldDescriptor (TX2 k).2.2.1 = some (tyX2 k) := by decide +kernel
abbrev cX2_init : ByteArray := prog_4_method_1_code
def yX2_init : MethodName := ⟨RX2, "<init>", "()V"⟩
abbrev cX2_count : ByteArray := prog_4_method_2_code
def yX2_count : MethodName := ⟨RX2, "count", "(I)I"⟩
abbrev cX2_get : ByteArray := prog_4_method_3_code
def yX2_get : MethodName := ⟨RX2, "get", "(II)I"⟩
abbrev cX2_hasRoom : ByteArray := prog_4_method_4_code
def yX2_hasRoom : MethodName := ⟨RX2, "hasRoom", "(II)Z"⟩
abbrev cX2_put : ByteArray := prog_4_method_5_code
def yX2_put : MethodName := ⟨RX2, "put", "(II)V"⟩
abbrev cX2_move : ByteArray := prog_4_method_6_code
def yX2_move : MethodName := ⟨RX2, "move", "(III)V"⟩
abbrev cX2_findOnTracks : ByteArray := prog_4_method_7_code
def yX2_findOnTracks : MethodName := ⟨RX2, "findOnTracks", "(I)I"⟩
abbrev cX2_clear : ByteArray := prog_4_method_8_code
def yX2_clear : MethodName := ⟨RX2, "clear", "()V"⟩
def RX3 : String := "TrunkYards$Switchboard"
def TX3 : u_T := fun k => match k with
  | 0 => ("TrunkYards$Switchboard", "customers", "[I", true)
  | 1 => ("TrunkYards$Switchboard", "yards", "[I", true)
  | 2 => ("TrunkYards$Switchboard", "openBookings", "[I", true)
  | 3 => ("TrunkYards$Switchboard", "firstTrunks", "[I", true)
  | 4 => ("TrunkYards$Switchboard", "secondTrunks", "[I", true)
  | 5 => ("TrunkYards$Switchboard", "ongoingCalls", "[I", true)
  | 6 => ("TrunkYards$Switchboard", "trunks", "[I", true)
  | 7 => ("TrunkYards$Switchboard", "lineCounts", "[I", true)
  | _ => ("TrunkYards$Switchboard", "begun", "I", false)
def tyX3 : Nat → FieldType := fun k => match k with
  | 0 => .array .int
  | 1 => .array .int
  | 2 => .array .int
  | 3 => .array .int
  | 4 => .array .int
  | 5 => .array .int
  | 6 => .array .int
  | 7 => .array .int
  | _ => .int
abbrev wsX30 : List Cond := u_ws RX3 TX3 9
theorem nmX3 : ∀ a, a < 9 → ∀ b, b < 9 → a ≠ b → (TX3 a).2.1 ≠ (TX3 b).2.1 := by decide +kernel
theorem tyX3_ok : ∀ k, k < 9 → parseFieldDescriptor (TX3 k).2.2.1 = some (tyX3 k) := by decide +kernel
abbrev cX3_init : ByteArray := prog_5_method_1_code
def yX3_init : MethodName := ⟨RX3, "<init>", "()V"⟩
abbrev cX3_hasBegun : ByteArray := prog_5_method_2_code
def yX3_hasBegun : MethodName := ⟨RX3, "hasBegun", "(I)Z"⟩
abbrev cX3_isFull : ByteArray := prog_5_method_3_code
def yX3_isFull : MethodName := ⟨RX3, "isFull", "()Z"⟩
abbrev cX3_ongoing : ByteArray := prog_5_method_4_code
def yX3_ongoing : MethodName := ⟨RX3, "ongoing", "(I)I"⟩
abbrev cX3_goesOn : ByteArray := prog_5_method_5_code
def yX3_goesOn : MethodName := ⟨RX3, "goesOn", "(I)Z"⟩
abbrev cX3_customer : ByteArray := prog_5_method_6_code
def yX3_customer : MethodName := ⟨RX3, "customer", "(I)I"⟩
abbrev cX3_yard : ByteArray := prog_5_method_7_code
def yX3_yard : MethodName := ⟨RX3, "yard", "(I)I"⟩
abbrev cX3_openBooking : ByteArray := prog_5_method_8_code
def yX3_openBooking : MethodName := ⟨RX3, "openBooking", "(I)I"⟩
abbrev cX3_setOpenBooking : ByteArray := prog_5_method_9_code
def yX3_setOpenBooking : MethodName := ⟨RX3, "setOpenBooking", "(II)V"⟩
abbrev cX3_trunksOf : ByteArray := prog_5_method_10_code
def yX3_trunksOf : MethodName := ⟨RX3, "trunksOf", "(I)I"⟩
abbrev cX3_trunkHas : ByteArray := prog_5_method_11_code
def yX3_trunkHas : MethodName := ⟨RX3, "trunkHas", "(I)I"⟩
abbrev cX3_setTrunk : ByteArray := prog_5_method_12_code
def yX3_setTrunk : MethodName := ⟨RX3, "setTrunk", "(II)V"⟩
abbrev cX3_callsTo : ByteArray := prog_5_method_13_code
def yX3_callsTo : MethodName := ⟨RX3, "callsTo", "(I)I"⟩
abbrev cX3_changeLines : ByteArray := prog_5_method_14_code
def yX3_changeLines : MethodName := ⟨RX3, "changeLines", "(II)I"⟩
abbrev cX3_begin : ByteArray := prog_5_method_15_code
def yX3_begin : MethodName := ⟨RX3, "begin", "(II)I"⟩
abbrev cX3_end : ByteArray := prog_5_method_16_code
def yX3_end : MethodName := ⟨RX3, "end", "(I)V"⟩
abbrev cX3_connect : ByteArray := prog_5_method_17_code
def yX3_connect : MethodName := ⟨RX3, "connect", "(IIII)I"⟩
abbrev cX3_occupy : ByteArray := prog_5_method_18_code
def yX3_occupy : MethodName := ⟨RX3, "occupy", "(II)V"⟩
abbrev cX3_freeTrunk : ByteArray := prog_5_method_19_code
def yX3_freeTrunk : MethodName := ⟨RX3, "freeTrunk", "(II)I"⟩
def RX4 : String := "TrunkYards"
def TX4 : u_T := fun k => match k with
  | 0 => ("TrunkYards", "rows", "LTrunkYards$Rows;", true)
  | 1 => ("TrunkYards", "replayed", "LTrunkYards$Rows;", true)
  | 2 => ("TrunkYards", "history", "LTrunkYards$History;", true)
  | 3 => ("TrunkYards", "ledger", "LTrunkYards$Ledger;", true)
  | 4 => ("TrunkYards", "board", "LTrunkYards$Switchboard;", true)
  | 5 => ("TrunkYards", "lastGrain", "[I", true)
  | 6 => ("TrunkYards", "mayFollow", "[Z", true)
  | 7 => ("TrunkYards", "destination", "[I", true)
  | 8 => ("TrunkYards", "placed", "I", false)
  | 9 => ("TrunkYards", "departed", "I", false)
  | 10 => ("TrunkYards", "busyCalls", "I", false)
  | _ => ("TrunkYards", "now", "I", false)
def tyX4 : Nat → FieldType := fun k => match k with
  | 0 => .object "TrunkYards$Rows"
  | 1 => .object "TrunkYards$Rows"
  | 2 => .object "TrunkYards$History"
  | 3 => .object "TrunkYards$Ledger"
  | 4 => .object "TrunkYards$Switchboard"
  | 5 => .array .int
  | 6 => .array .boolean
  | 7 => .array .int
  | 8 => .int
  | 9 => .int
  | 10 => .int
  | _ => .int
abbrev wsX40 : List Cond := u_ws RX4 TX4 12
theorem nmX4 : ∀ a, a < 12 → ∀ b, b < 12 → a ≠ b → (TX4 a).2.1 ≠ (TX4 b).2.1 := by decide +kernel
theorem tyX4_ok : ∀ k, k < 12 → parseFieldDescriptor (TX4 k).2.2.1 = some (tyX4 k) := by decide +kernel
abbrev cX4_init : ByteArray := prog_1_method_1_code
def yX4_init : MethodName := ⟨RX4, "<init>", "()V"⟩
abbrev cX4_wagon : ByteArray := prog_1_method_2_code
def yX4_wagon : MethodName := ⟨RX4, "wagon", "(II)I"⟩
abbrev cX4_shunt : ByteArray := prog_1_method_3_code
def yX4_shunt : MethodName := ⟨RX4, "shunt", "(IIII)I"⟩
abbrev cX4_wash : ByteArray := prog_1_method_4_code
def yX4_wash : MethodName := ⟨RX4, "wash", "(I)I"⟩
abbrev cX4_follow : ByteArray := prog_1_method_5_code
def yX4_follow : MethodName := ⟨RX4, "follow", "(II)Z"⟩
abbrev cX4_on : ByteArray := prog_1_method_6_code
def yX4_on : MethodName := ⟨RX4, "on", "(II)I"⟩
abbrev cX4_at : ByteArray := prog_1_method_7_code
def yX4_at : MethodName := ⟨RX4, "at", "(III)I"⟩
abbrev cX4_atByReplay : ByteArray := prog_1_method_8_code
def yX4_atByReplay : MethodName := ⟨RX4, "atByReplay", "(III)I"⟩
abbrev cX4_where : ByteArray := prog_1_method_9_code
def yX4_where : MethodName := ⟨RX4, "where", "(I)I"⟩
abbrev cX4_carried : ByteArray := prog_1_method_10_code
def yX4_carried : MethodName := ⟨RX4, "carried", "(I)I"⟩
abbrev cX4_promised : ByteArray := prog_1_method_11_code
def yX4_promised : MethodName := ⟨RX4, "promised", "(I)I"⟩
abbrev cX4_call : ByteArray := prog_1_method_12_code
def yX4_call : MethodName := ⟨RX4, "call", "(II)I"⟩
abbrev cX4_ask : ByteArray := prog_1_method_13_code
def yX4_ask : MethodName := ⟨RX4, "ask", "(II)I"⟩
abbrev cX4_confirm : ByteArray := prog_1_method_14_code
def yX4_confirm : MethodName := ⟨RX4, "confirm", "(I)I"⟩
abbrev cX4_resume : ByteArray := prog_1_method_15_code
def yX4_resume : MethodName := ⟨RX4, "resume", "(II)I"⟩
abbrev cX4_cancel : ByteArray := prog_1_method_16_code
def yX4_cancel : MethodName := ⟨RX4, "cancel", "(II)I"⟩
abbrev cX4_hangUp : ByteArray := prog_1_method_17_code
def yX4_hangUp : MethodName := ⟨RX4, "hangUp", "(I)I"⟩
abbrev cX4_callOf : ByteArray := prog_1_method_18_code
def yX4_callOf : MethodName := ⟨RX4, "callOf", "(I)I"⟩
abbrev cX4_way : ByteArray := prog_1_method_19_code
def yX4_way : MethodName := ⟨RX4, "way", "(I)I"⟩
abbrev cX4_busy : ByteArray := prog_1_method_20_code
def yX4_busy : MethodName := ⟨RX4, "busy", "()I"⟩
abbrev cX4_cut : ByteArray := prog_1_method_21_code
def yX4_cut : MethodName := ⟨RX4, "cut", "(III)I"⟩
abbrev cX4_mend : ByteArray := prog_1_method_22_code
def yX4_mend : MethodName := ⟨RX4, "mend", "(III)V"⟩
abbrev cX4_trunk : ByteArray := prog_1_method_23_code
def yX4_trunk : MethodName := ⟨RX4, "trunk", "(III)I"⟩
abbrev cX4_setLines : ByteArray := prog_1_method_24_code
def yX4_setLines : MethodName := ⟨RX4, "setLines", "(II)I"⟩
abbrev cX4_pass : ByteArray := prog_1_method_25_code
def yX4_pass : MethodName := ⟨RX4, "pass", "(I)I"⟩
abbrev cX4_bookings : ByteArray := prog_1_method_26_code
def yX4_bookings : MethodName := ⟨RX4, "bookings", "()I"⟩
abbrev cX4_state : ByteArray := prog_1_method_27_code
def yX4_state : MethodName := ⟨RX4, "state", "(I)I"⟩
abbrev cX4_wagons : ByteArray := prog_1_method_28_code
def yX4_wagons : MethodName := ⟨RX4, "wagons", "(I)I"⟩
abbrev cX4_wagonOf : ByteArray := prog_1_method_29_code
def yX4_wagonOf : MethodName := ⟨RX4, "wagonOf", "(II)I"⟩
abbrev cX4_lapses : ByteArray := prog_1_method_30_code
def yX4_lapses : MethodName := ⟨RX4, "lapses", "(I)I"⟩
abbrev cX4_depart : ByteArray := prog_1_method_31_code
def yX4_depart : MethodName := ⟨RX4, "depart", "(III)I"⟩
abbrev cX4_arrive : ByteArray := prog_1_method_32_code
def yX4_arrive : MethodName := ⟨RX4, "arrive", "(II)I"⟩
abbrev cX4_trains : ByteArray := prog_1_method_33_code
def yX4_trains : MethodName := ⟨RX4, "trains", "()I"⟩
abbrev cX4_isYard : ByteArray := prog_1_method_34_code
def yX4_isYard : MethodName := ⟨RX4, "isYard", "(I)Z"⟩
abbrev cX4_isTrack : ByteArray := prog_1_method_35_code
def yX4_isTrack : MethodName := ⟨RX4, "isTrack", "(I)Z"⟩
abbrev cX4_isGrain : ByteArray := prog_1_method_36_code
def yX4_isGrain : MethodName := ⟨RX4, "isGrain", "(I)Z"⟩
abbrev cX4_isExchange : ByteArray := prog_1_method_37_code
def yX4_isExchange : MethodName := ⟨RX4, "isExchange", "(I)Z"⟩
abbrev cX4_requireYard : ByteArray := prog_1_method_38_code
def yX4_requireYard : MethodName := ⟨RX4, "requireYard", "(I)V"⟩
abbrev cX4_requireTrack : ByteArray := prog_1_method_39_code
def yX4_requireTrack : MethodName := ⟨RX4, "requireTrack", "(II)V"⟩
abbrev cX4_requireCustomer : ByteArray := prog_1_method_40_code
def yX4_requireCustomer : MethodName := ⟨RX4, "requireCustomer", "(I)V"⟩
abbrev cX4_requireTrunk : ByteArray := prog_1_method_41_code
def yX4_requireTrunk : MethodName := ⟨RX4, "requireTrunk", "(III)V"⟩
abbrev cX4_requireWagon : ByteArray := prog_1_method_42_code
def yX4_requireWagon : MethodName := ⟨RX4, "requireWagon", "(I)V"⟩
abbrev cX4_requireCall : ByteArray := prog_1_method_43_code
def yX4_requireCall : MethodName := ⟨RX4, "requireCall", "(I)V"⟩
abbrev cX4_requireOngoing : ByteArray := prog_1_method_44_code
def yX4_requireOngoing : MethodName := ⟨RX4, "requireOngoing", "(I)V"⟩
abbrev cX4_requireBooking : ByteArray := prog_1_method_45_code
def yX4_requireBooking : MethodName := ⟨RX4, "requireBooking", "(I)V"⟩
abbrev cX4_rowOf : ByteArray := prog_1_method_46_code
def yX4_rowOf : MethodName := ⟨RX4, "rowOf", "(II)I"⟩
abbrev cX4_slotOf : ByteArray := prog_1_method_47_code
def yX4_slotOf : MethodName := ⟨RX4, "slotOf", "(III)I"⟩
abbrev cX4_wagonIn : ByteArray := prog_1_method_48_code
def yX4_wagonIn : MethodName := ⟨RX4, "wagonIn", "(LTrunkYards$Rows;II)I"⟩
abbrev cX4_moveLast : ByteArray := prog_1_method_49_code
def yX4_moveLast : MethodName := ⟨RX4, "moveLast", "(III)V"⟩
abbrev cX4_fits : ByteArray := prog_1_method_50_code
def yX4_fits : MethodName := ⟨RX4, "fits", "(II)Z"⟩
abbrev cX4_findWagon : ByteArray := prog_1_method_51_code
def yX4_findWagon : MethodName := ⟨RX4, "findWagon", "(II)I"⟩
abbrev cX4_isWithin : ByteArray := prog_1_method_52_code
def yX4_isWithin : MethodName := ⟨RX4, "isWithin", "(III)Z"⟩
abbrev cX4_cutOff : ByteArray := prog_1_method_53_code
def yX4_cutOff : MethodName := ⟨RX4, "cutOff", "(I)V"⟩
abbrev cX4_canDepart : ByteArray := prog_1_method_54_code
def yX4_canDepart : MethodName := ⟨RX4, "canDepart", "(I)Z"⟩
abbrev cX4_standsWhole : ByteArray := prog_1_method_55_code
def yX4_standsWhole : MethodName := ⟨RX4, "standsWhole", "(II)Z"⟩
abbrev cX4_load : ByteArray := prog_1_method_56_code
def yX4_load : MethodName := ⟨RX4, "load", "(I)V"⟩
abbrev cX4_unload : ByteArray := prog_1_method_57_code
def yX4_unload : MethodName := ⟨RX4, "unload", "(I)V"⟩
def RX5 : String := "TrunkYardsModel"
def TX5 : u_T := fun k => match k with
  | 0 => ("TrunkYardsModel", "thrown", "I", false)
  | 1 => ("TrunkYardsModel", "now", "I", false)
  | 2 => ("TrunkYardsModel", "wagons", "I", false)
  | 3 => ("TrunkYardsModel", "where", "[I", true)
  | 4 => ("TrunkYardsModel", "carried", "[I", true)
  | 5 => ("TrunkYardsModel", "booking", "[I", true)
  | 6 => ("TrunkYardsModel", "on", "[I", true)
  | 7 => ("TrunkYardsModel", "track", "[I", true)
  | 8 => ("TrunkYardsModel", "follows", "[I", true)
  | 9 => ("TrunkYardsModel", "trunk", "[I", true)
  | 10 => ("TrunkYardsModel", "lines", "[I", true)
  | 11 => ("TrunkYardsModel", "calls", "I", false)
  | 12 => ("TrunkYardsModel", "busy", "I", false)
  | 13 => ("TrunkYardsModel", "customer", "[I", true)
  | 14 => ("TrunkYardsModel", "yard", "[I", true)
  | 15 => ("TrunkYardsModel", "goesOn", "[Z", true)
  | 16 => ("TrunkYardsModel", "open", "[I", true)
  | 17 => ("TrunkYardsModel", "bookings", "I", false)
  | 18 => ("TrunkYardsModel", "state", "[I", true)
  | 19 => ("TrunkYardsModel", "grain", "[I", true)
  | 20 => ("TrunkYardsModel", "owner", "[I", true)
  | 21 => ("TrunkYardsModel", "booked", "[I", true)
  | 22 => ("TrunkYardsModel", "lapse", "[I", true)
  | 23 => ("TrunkYardsModel", "many", "[I", true)
  | 24 => ("TrunkYardsModel", "wagonOf", "[I", true)
  | 25 => ("TrunkYardsModel", "trains", "I", false)
  | 26 => ("TrunkYardsModel", "goesTo", "[I", true)
  | 27 => ("TrunkYardsModel", "hasArrived", "[Z", true)
  | 28 => ("TrunkYardsModel", "length", "[I", true)
  | _ => ("TrunkYardsModel", "train", "[I", true)
def tyX5 : Nat → FieldType := fun k => match k with
  | 0 => .int
  | 1 => .int
  | 2 => .int
  | 3 => .array .int
  | 4 => .array .int
  | 5 => .array .int
  | 6 => .array .int
  | 7 => .array .int
  | 8 => .array .int
  | 9 => .array .int
  | 10 => .array .int
  | 11 => .int
  | 12 => .int
  | 13 => .array .int
  | 14 => .array .int
  | 15 => .array .boolean
  | 16 => .array .int
  | 17 => .int
  | 18 => .array .int
  | 19 => .array .int
  | 20 => .array .int
  | 21 => .array .int
  | 22 => .array .int
  | 23 => .array .int
  | 24 => .array .int
  | 25 => .int
  | 26 => .array .int
  | 27 => .array .boolean
  | 28 => .array .int
  | _ => .array .int
abbrev wsX50 : List Cond := u_ws RX5 TX5 30
theorem nmX5 : ∀ a, a < 30 → ∀ b, b < 30 → a ≠ b → (TX5 a).2.1 ≠ (TX5 b).2.1 := by decide +kernel
theorem tyX5_ok : ∀ k, k < 30 → parseFieldDescriptor (TX5 k).2.2.1 = some (tyX5 k) := by decide +kernel
abbrev cX5_init : ByteArray := prog_7_method_1_code
def yX5_init : MethodName := ⟨RX5, "<init>", "()V"⟩
abbrev cX5_thrown : ByteArray := prog_7_method_2_code
def yX5_thrown : MethodName := ⟨RX5, "thrown", "()I"⟩
abbrev cX5_in : ByteArray := prog_7_method_3_code
def yX5_in : MethodName := ⟨RX5, "in", "(III)Z"⟩
abbrev cX5_isYard : ByteArray := prog_7_method_4_code
def yX5_isYard : MethodName := ⟨RX5, "isYard", "(I)Z"⟩
abbrev cX5_isTrack : ByteArray := prog_7_method_5_code
def yX5_isTrack : MethodName := ⟨RX5, "isTrack", "(II)Z"⟩
abbrev cX5_isGrain : ByteArray := prog_7_method_6_code
def yX5_isGrain : MethodName := ⟨RX5, "isGrain", "(I)Z"⟩
abbrev cX5_isWagon : ByteArray := prog_7_method_7_code
def yX5_isWagon : MethodName := ⟨RX5, "isWagon", "(I)Z"⟩
abbrev cX5_puts : ByteArray := prog_7_method_8_code
def yX5_puts : MethodName := ⟨RX5, "puts", "(III)V"⟩
abbrev cX5_wagon : ByteArray := prog_7_method_9_code
def yX5_wagon : MethodName := ⟨RX5, "wagon", "(II)I"⟩
abbrev cX5_shunt : ByteArray := prog_7_method_10_code
def yX5_shunt : MethodName := ⟨RX5, "shunt", "(IIII)I"⟩
abbrev cX5_wash : ByteArray := prog_7_method_11_code
def yX5_wash : MethodName := ⟨RX5, "wash", "(I)I"⟩
abbrev cX5_follow : ByteArray := prog_7_method_12_code
def yX5_follow : MethodName := ⟨RX5, "follow", "(II)Z"⟩
abbrev cX5_on : ByteArray := prog_7_method_13_code
def yX5_on : MethodName := ⟨RX5, "on", "(II)I"⟩
abbrev cX5_wagonAt : ByteArray := prog_7_method_14_code
def yX5_wagonAt : MethodName := ⟨RX5, "wagonAt", "(III)I"⟩
abbrev cX5_at : ByteArray := prog_7_method_15_code
def yX5_at : MethodName := ⟨RX5, "at", "(III)I"⟩
abbrev cX5_atByReplay : ByteArray := prog_7_method_16_code
def yX5_atByReplay : MethodName := ⟨RX5, "atByReplay", "(III)I"⟩
abbrev cX5_asksWagon : ByteArray := prog_7_method_17_code
def yX5_asksWagon : MethodName := ⟨RX5, "asksWagon", "(I)Z"⟩
abbrev cX5_where : ByteArray := prog_7_method_18_code
def yX5_where : MethodName := ⟨RX5, "where", "(I)I"⟩
abbrev cX5_carried : ByteArray := prog_7_method_19_code
def yX5_carried : MethodName := ⟨RX5, "carried", "(I)I"⟩
abbrev cX5_isPromised : ByteArray := prog_7_method_20_code
def yX5_isPromised : MethodName := ⟨RX5, "isPromised", "(I)Z"⟩
abbrev cX5_promised : ByteArray := prog_7_method_21_code
def yX5_promised : MethodName := ⟨RX5, "promised", "(I)I"⟩
abbrev cX5_isCall : ByteArray := prog_7_method_22_code
def yX5_isCall : MethodName := ⟨RX5, "isCall", "(I)Z"⟩
abbrev cX5_isBooking : ByteArray := prog_7_method_23_code
def yX5_isBooking : MethodName := ⟨RX5, "isBooking", "(I)Z"⟩
abbrev cX5_callNow : ByteArray := prog_7_method_24_code
def yX5_callNow : MethodName := ⟨RX5, "callNow", "(I)I"⟩
abbrev cX5_callsTo : ByteArray := prog_7_method_25_code
def yX5_callsTo : MethodName := ⟨RX5, "callsTo", "(I)I"⟩
abbrev cX5_between : ByteArray := prog_7_method_26_code
def yX5_between : MethodName := ⟨RX5, "between", "(II)I"⟩
abbrev cX5_freeBetween : ByteArray := prog_7_method_27_code
def yX5_freeBetween : MethodName := ⟨RX5, "freeBetween", "(II)I"⟩
abbrev cX5_takesWay : ByteArray := prog_7_method_28_code
def yX5_takesWay : MethodName := ⟨RX5, "takesWay", "(II)Z"⟩
abbrev cX5_call : ByteArray := prog_7_method_29_code
def yX5_call : MethodName := ⟨RX5, "call", "(II)I"⟩
abbrev cX5_fits : ByteArray := prog_7_method_30_code
def yX5_fits : MethodName := ⟨RX5, "fits", "(II)Z"⟩
abbrev cX5_finds : ByteArray := prog_7_method_31_code
def yX5_finds : MethodName := ⟨RX5, "finds", "(II)I"⟩
abbrev cX5_adds : ByteArray := prog_7_method_32_code
def yX5_adds : MethodName := ⟨RX5, "adds", "(II)V"⟩
abbrev cX5_ask : ByteArray := prog_7_method_33_code
def yX5_ask : MethodName := ⟨RX5, "ask", "(II)I"⟩
abbrev cX5_confirm : ByteArray := prog_7_method_34_code
def yX5_confirm : MethodName := ⟨RX5, "confirm", "(I)I"⟩
abbrev cX5_isOf : ByteArray := prog_7_method_35_code
def yX5_isOf : MethodName := ⟨RX5, "isOf", "(II)Z"⟩
abbrev cX5_resume : ByteArray := prog_7_method_36_code
def yX5_resume : MethodName := ⟨RX5, "resume", "(II)I"⟩
abbrev cX5_cancel : ByteArray := prog_7_method_37_code
def yX5_cancel : MethodName := ⟨RX5, "cancel", "(II)I"⟩
abbrev cX5_ends : ByteArray := prog_7_method_38_code
def yX5_ends : MethodName := ⟨RX5, "ends", "(I)V"⟩
abbrev cX5_hangUp : ByteArray := prog_7_method_39_code
def yX5_hangUp : MethodName := ⟨RX5, "hangUp", "(I)I"⟩
abbrev cX5_callOf : ByteArray := prog_7_method_40_code
def yX5_callOf : MethodName := ⟨RX5, "callOf", "(I)I"⟩
abbrev cX5_way : ByteArray := prog_7_method_41_code
def yX5_way : MethodName := ⟨RX5, "way", "(I)I"⟩
abbrev cX5_busy : ByteArray := prog_7_method_42_code
def yX5_busy : MethodName := ⟨RX5, "busy", "()I"⟩
abbrev cX5_isTrunk : ByteArray := prog_7_method_43_code
def yX5_isTrunk : MethodName := ⟨RX5, "isTrunk", "(III)Z"⟩
abbrev cX5_cut : ByteArray := prog_7_method_44_code
def yX5_cut : MethodName := ⟨RX5, "cut", "(III)I"⟩
abbrev cX5_mend : ByteArray := prog_7_method_45_code
def yX5_mend : MethodName := ⟨RX5, "mend", "(III)V"⟩
abbrev cX5_trunk : ByteArray := prog_7_method_46_code
def yX5_trunk : MethodName := ⟨RX5, "trunk", "(III)I"⟩
abbrev cX5_setLines : ByteArray := prog_7_method_47_code
def yX5_setLines : MethodName := ⟨RX5, "setLines", "(II)I"⟩
abbrev cX5_pass : ByteArray := prog_7_method_48_code
def yX5_pass : MethodName := ⟨RX5, "pass", "(I)I"⟩
abbrev cX5_bookings : ByteArray := prog_7_method_49_code
def yX5_bookings : MethodName := ⟨RX5, "bookings", "()I"⟩
abbrev cX5_asksBooking : ByteArray := prog_7_method_50_code
def yX5_asksBooking : MethodName := ⟨RX5, "asksBooking", "(I)Z"⟩
abbrev cX5_state : ByteArray := prog_7_method_51_code
def yX5_state : MethodName := ⟨RX5, "state", "(I)I"⟩
abbrev cX5_wagons : ByteArray := prog_7_method_52_code
def yX5_wagons : MethodName := ⟨RX5, "wagons", "(I)I"⟩
abbrev cX5_wagonOf : ByteArray := prog_7_method_53_code
def yX5_wagonOf : MethodName := ⟨RX5, "wagonOf", "(II)I"⟩
abbrev cX5_lapses : ByteArray := prog_7_method_54_code
def yX5_lapses : MethodName := ⟨RX5, "lapses", "(I)I"⟩
abbrev cX5_areOn : ByteArray := prog_7_method_55_code
def yX5_areOn : MethodName := ⟨RX5, "areOn", "(II)Z"⟩
abbrev cX5_canDepart : ByteArray := prog_7_method_56_code
def yX5_canDepart : MethodName := ⟨RX5, "canDepart", "(II)Z"⟩
abbrev cX5_depart : ByteArray := prog_7_method_57_code
def yX5_depart : MethodName := ⟨RX5, "depart", "(III)I"⟩
abbrev cX5_arrive : ByteArray := prog_7_method_58_code
def yX5_arrive : MethodName := ⟨RX5, "arrive", "(II)I"⟩
abbrev cX5_trains : ByteArray := prog_7_method_59_code
def yX5_trains : MethodName := ⟨RX5, "trains", "()I"⟩
def RJx145de : String := "java/io/Serializable"
def TJx145de : u_T := fun k => match k with
  | _ => ("", "", "", false)
def tyJx145de : Nat → FieldType := fun k => match k with
  | _ => .int
abbrev wsJx145de0 : List Cond := u_ws RJx145de TJx145de 0
theorem nmJx145de : ∀ a, a < 0 → ∀ b, b < 0 → a ≠ b → (TJx145de a).2.1 ≠ (TJx145de b).2.1 := by decide +kernel
theorem tyJx145de_ok : ∀ k, k < 0 → parseFieldDescriptor (TJx145de k).2.2.1 = some (tyJx145de k) := by decide +kernel
def RJ0 : String := "java/lang/String"
def TJ0 : u_T := fun k => match k with
  | _ => ("", "", "", false)
def tyJ0 : Nat → FieldType := fun k => match k with
  | _ => .int
abbrev wsJ00 : List Cond := u_ws RJ0 TJ0 0
theorem nmJ0 : ∀ a, a < 0 → ∀ b, b < 0 → a ≠ b → (TJ0 a).2.1 ≠ (TJ0 b).2.1 := by decide +kernel
theorem tyJ0_ok : ∀ k, k < 0 → parseFieldDescriptor (TJ0 k).2.2.1 = some (tyJ0 k) := by decide +kernel
def RJ7 : String := "java/util/Arrays"
def TJ7 : u_T := fun k => match k with
  | _ => ("", "", "", false)
def tyJ7 : Nat → FieldType := fun k => match k with
  | _ => .int
abbrev wsJ70 : List Cond := u_ws RJ7 TJ7 0
theorem nmJ7 : ∀ a, a < 0 → ∀ b, b < 0 → a ≠ b → (TJ7 a).2.1 ≠ (TJ7 b).2.1 := by decide +kernel
theorem tyJ7_ok : ∀ k, k < 0 → parseFieldDescriptor (TJ7 k).2.2.1 = some (tyJ7 k) := by decide +kernel
abbrev cJ7_fill_53178 : ByteArray := prog_15_method_103_code
def yJ7_fill_53178 : MethodName := ⟨RJ7, "fill", "([II)V"⟩
def RL : String := "TrunkYardsLaw"
abbrev cL_wagon : ByteArray := method_3_code
def yL_wagon : MethodName := ⟨RL, "wagon", "(LTrunkYards;II[J)I"⟩
abbrev cL_shunt : ByteArray := method_4_code
def yL_shunt : MethodName := ⟨RL, "shunt", "(LTrunkYards;IIII[J)I"⟩
abbrev cL_wash : ByteArray := method_5_code
def yL_wash : MethodName := ⟨RL, "wash", "(LTrunkYards;I[J)I"⟩
abbrev cL_follow : ByteArray := method_6_code
def yL_follow : MethodName := ⟨RL, "follow", "(LTrunkYards;II[J)I"⟩
abbrev cL_on : ByteArray := method_7_code
def yL_on : MethodName := ⟨RL, "on", "(LTrunkYards;II[J)I"⟩
abbrev cL_at : ByteArray := method_8_code
def yL_at : MethodName := ⟨RL, "at", "(LTrunkYards;III[J)I"⟩
abbrev cL_atByReplay : ByteArray := method_9_code
def yL_atByReplay : MethodName := ⟨RL, "atByReplay", "(LTrunkYards;III[J)I"⟩
abbrev cL_where : ByteArray := method_10_code
def yL_where : MethodName := ⟨RL, "where", "(LTrunkYards;I[J)I"⟩
abbrev cL_carried : ByteArray := method_11_code
def yL_carried : MethodName := ⟨RL, "carried", "(LTrunkYards;I[J)I"⟩
abbrev cL_promised : ByteArray := method_12_code
def yL_promised : MethodName := ⟨RL, "promised", "(LTrunkYards;I[J)I"⟩
abbrev cL_call : ByteArray := method_13_code
def yL_call : MethodName := ⟨RL, "call", "(LTrunkYards;II[J)I"⟩
abbrev cL_ask : ByteArray := method_14_code
def yL_ask : MethodName := ⟨RL, "ask", "(LTrunkYards;II[J)I"⟩
abbrev cL_confirm : ByteArray := method_15_code
def yL_confirm : MethodName := ⟨RL, "confirm", "(LTrunkYards;I[J)I"⟩
abbrev cL_resume : ByteArray := method_16_code
def yL_resume : MethodName := ⟨RL, "resume", "(LTrunkYards;II[J)I"⟩
abbrev cL_cancel : ByteArray := method_17_code
def yL_cancel : MethodName := ⟨RL, "cancel", "(LTrunkYards;II[J)I"⟩
abbrev cL_hangUp : ByteArray := method_18_code
def yL_hangUp : MethodName := ⟨RL, "hangUp", "(LTrunkYards;I[J)I"⟩
abbrev cL_callOf : ByteArray := method_19_code
def yL_callOf : MethodName := ⟨RL, "callOf", "(LTrunkYards;I[J)I"⟩
abbrev cL_way : ByteArray := method_20_code
def yL_way : MethodName := ⟨RL, "way", "(LTrunkYards;I[J)I"⟩
abbrev cL_cut : ByteArray := method_21_code
def yL_cut : MethodName := ⟨RL, "cut", "(LTrunkYards;III[J)I"⟩
abbrev cL_mend : ByteArray := method_22_code
def yL_mend : MethodName := ⟨RL, "mend", "(LTrunkYards;III)I"⟩
abbrev cL_trunk : ByteArray := method_23_code
def yL_trunk : MethodName := ⟨RL, "trunk", "(LTrunkYards;III[J)I"⟩
abbrev cL_setLines : ByteArray := method_24_code
def yL_setLines : MethodName := ⟨RL, "setLines", "(LTrunkYards;II[J)I"⟩
abbrev cL_pass : ByteArray := method_25_code
def yL_pass : MethodName := ⟨RL, "pass", "(LTrunkYards;I[J)I"⟩
abbrev cL_state : ByteArray := method_26_code
def yL_state : MethodName := ⟨RL, "state", "(LTrunkYards;I[J)I"⟩
abbrev cL_wagons : ByteArray := method_27_code
def yL_wagons : MethodName := ⟨RL, "wagons", "(LTrunkYards;I[J)I"⟩
abbrev cL_wagonOf : ByteArray := method_28_code
def yL_wagonOf : MethodName := ⟨RL, "wagonOf", "(LTrunkYards;II[J)I"⟩
abbrev cL_lapses : ByteArray := method_29_code
def yL_lapses : MethodName := ⟨RL, "lapses", "(LTrunkYards;I[J)I"⟩
abbrev cL_depart : ByteArray := method_30_code
def yL_depart : MethodName := ⟨RL, "depart", "(LTrunkYards;III[J)I"⟩
abbrev cL_arrive : ByteArray := method_31_code
def yL_arrive : MethodName := ⟨RL, "arrive", "(LTrunkYards;II[J)I"⟩
abbrev cL_law : ByteArray := code
def yL_law : MethodName := ⟨RL, "law", "([I)Z"⟩
def wsX0_init : List Cond := .code yX0_init cX0_init 1 none :: ([.methodLink RX0 3 objectInit, .instanceMethod objectInit, .code objectInit ⟨#[0xb1]⟩ 1 none, .arrayClass .int, .fieldLink RX0 9 "TrunkYards$History" "from" "[I", .fieldLink RX0 15 "TrunkYards$History" "to" "[I", .fieldLink RX0 18 "TrunkYards$History" "many" "[I"] ++ wsX00)
def wsX0_noteMove : List Cond := .code yX0_noteMove cX0_noteMove 4 none :: ([.fieldLink RX0 25 "TrunkYards$History" "noted" "I", .fieldLink RX0 9 "TrunkYards$History" "from" "[I", .fieldLink RX0 15 "TrunkYards$History" "to" "[I", .fieldLink RX0 18 "TrunkYards$History" "many" "[I"] ++ wsX00)
def wsX0_notePlacing : List Cond := .code yX0_notePlacing cX0_notePlacing 3 none :: ([.methodLink RX0 21 yX0_noteMove, .instanceMethod yX0_noteMove, .selects RX0 yX0_noteMove yX0_noteMove, .initialized RX0, .code yX0_noteMove cX0_noteMove 4 none, .fieldLink RX0 25 "TrunkYards$History" "noted" "I", .fieldLink RX0 9 "TrunkYards$History" "from" "[I", .fieldLink RX0 15 "TrunkYards$History" "to" "[I", .fieldLink RX0 18 "TrunkYards$History" "many" "[I"] ++ wsX00)
def wsJ7_fill_53178 : List Cond := .code yJ7_fill_53178 cJ7_fill_53178 4 none :: ([])
def wsX2_clear : List Cond := .code yX2_clear cX2_clear 1 none :: ([.fieldLink RX2 9 "TrunkYards$Rows" "counts" "[I", .methodLink RX2 22 yJ7_fill_53178, .static yJ7_fill_53178, .initialized RJ7, .code yJ7_fill_53178 cJ7_fill_53178 4 none] ++ wsX20)
def wsX2_put : List Cond := .code yX2_put cX2_put 3 none :: ([.fieldLink RX2 15 "TrunkYards$Rows" "standing" "[I", .fieldLink RX2 9 "TrunkYards$Rows" "counts" "[I"] ++ wsX20)
def wsX2_move : List Cond := .code yX2_move cX2_move 7 none :: ([.fieldLink RX2 9 "TrunkYards$Rows" "counts" "[I", .fieldLink RX2 15 "TrunkYards$Rows" "standing" "[I"] ++ wsX20)
def wsX0_replay : List Cond := .code yX0_replay cX0_replay 3 none :: ([.fieldLink RX0 25 "TrunkYards$History" "noted" "I", .fieldLink RX0 9 "TrunkYards$History" "from" "[I", .fieldLink RX0 15 "TrunkYards$History" "to" "[I", .fieldLink RX0 18 "TrunkYards$History" "many" "[I", .methodLink RX0 29 yX2_clear, .instanceMethod yX2_clear, .selects RX2 yX2_clear yX2_clear, .initialized RX2, .code yX2_clear cX2_clear 1 none, .fieldLink RX2 9 "TrunkYards$Rows" "counts" "[I", .methodLink RX2 22 yJ7_fill_53178, .static yJ7_fill_53178, .initialized RJ7, .code yJ7_fill_53178 cJ7_fill_53178 4 none, .methodLink RX0 34 yX2_put, .instanceMethod yX2_put, .selects RX2 yX2_put yX2_put, .code yX2_put cX2_put 3 none, .fieldLink RX2 15 "TrunkYards$Rows" "standing" "[I", .methodLink RX0 38 yX2_move, .instanceMethod yX2_move, .selects RX2 yX2_move yX2_move, .code yX2_move cX2_move 7 none] ++ wsX00 ++ wsX20)
def wsX1_init : List Cond := .code yX1_init cX1_init 1 none :: ([.methodLink RX1 3 objectInit, .instanceMethod objectInit, .code objectInit ⟨#[0xb1]⟩ 1 none, .arrayClass .int, .fieldLink RX1 9 "TrunkYards$Ledger" "customers" "[I", .fieldLink RX1 15 "TrunkYards$Ledger" "yards" "[I", .fieldLink RX1 18 "TrunkYards$Ledger" "grains" "[I", .fieldLink RX1 21 "TrunkYards$Ledger" "standings" "[I", .fieldLink RX1 24 "TrunkYards$Ledger" "lapseTicks" "[I", .fieldLink RX1 27 "TrunkYards$Ledger" "sizes" "[I", .fieldLink RX1 30 "TrunkYards$Ledger" "booked" "[I", .fieldLink RX1 33 "TrunkYards$Ledger" "bookingOfWagon" "[I", .methodLink RX1 36 yJ7_fill_53178, .static yJ7_fill_53178, .initialized RJ7, .code yJ7_fill_53178 cJ7_fill_53178 4 none] ++ wsX10)
def wsX1_opened : List Cond := .code yX1_opened cX1_opened 1 (some .int) :: ([.fieldLink RX1 42 "TrunkYards$Ledger" "count" "I"] ++ wsX10)
def wsX1_isFull : List Cond := .code yX1_isFull cX1_isFull 1 (some .boolean) :: ([.fieldLink RX1 42 "TrunkYards$Ledger" "count" "I"] ++ wsX10)
def wsX1_customer : List Cond := .code yX1_customer cX1_customer 2 (some .int) :: ([.fieldLink RX1 9 "TrunkYards$Ledger" "customers" "[I"] ++ wsX10)
def wsX1_yard : List Cond := .code yX1_yard cX1_yard 2 (some .int) :: ([.fieldLink RX1 15 "TrunkYards$Ledger" "yards" "[I"] ++ wsX10)
def wsX1_grain : List Cond := .code yX1_grain cX1_grain 2 (some .int) :: ([.fieldLink RX1 18 "TrunkYards$Ledger" "grains" "[I"] ++ wsX10)
def wsX1_standing : List Cond := .code yX1_standing cX1_standing 2 (some .int) :: ([.fieldLink RX1 21 "TrunkYards$Ledger" "standings" "[I"] ++ wsX10)
def wsX1_lapseTick : List Cond := .code yX1_lapseTick cX1_lapseTick 2 (some .int) :: ([.fieldLink RX1 24 "TrunkYards$Ledger" "lapseTicks" "[I"] ++ wsX10)
def wsX1_size : List Cond := .code yX1_size cX1_size 2 (some .int) :: ([.fieldLink RX1 27 "TrunkYards$Ledger" "sizes" "[I"] ++ wsX10)
def wsX1_get : List Cond := .code yX1_get cX1_get 3 (some .int) :: ([.fieldLink RX1 30 "TrunkYards$Ledger" "booked" "[I"] ++ wsX10)
def wsX1_bookingFor : List Cond := .code yX1_bookingFor cX1_bookingFor 2 (some .int) :: ([.fieldLink RX1 33 "TrunkYards$Ledger" "bookingOfWagon" "[I"] ++ wsX10)
def wsX1_open : List Cond := .code yX1_open cX1_open 5 (some .int) :: ([.fieldLink RX1 42 "TrunkYards$Ledger" "count" "I", .fieldLink RX1 9 "TrunkYards$Ledger" "customers" "[I", .fieldLink RX1 15 "TrunkYards$Ledger" "yards" "[I", .fieldLink RX1 18 "TrunkYards$Ledger" "grains" "[I", .fieldLink RX1 21 "TrunkYards$Ledger" "standings" "[I"] ++ wsX10)
def wsX1_add : List Cond := .code yX1_add cX1_add 3 none :: ([.fieldLink RX1 30 "TrunkYards$Ledger" "booked" "[I", .fieldLink RX1 27 "TrunkYards$Ledger" "sizes" "[I", .fieldLink RX1 33 "TrunkYards$Ledger" "bookingOfWagon" "[I"] ++ wsX10)
def wsX1_keep : List Cond := .code yX1_keep cX1_keep 3 none :: ([.fieldLink RX1 21 "TrunkYards$Ledger" "standings" "[I"] ++ wsX10)
def wsX1_halve : List Cond := .code yX1_halve cX1_halve 3 none :: ([.fieldLink RX1 21 "TrunkYards$Ledger" "standings" "[I", .fieldLink RX1 24 "TrunkYards$Ledger" "lapseTicks" "[I"] ++ wsX10)
def wsX1_release : List Cond := .code yX1_release cX1_release 4 none :: ([.fieldLink RX1 21 "TrunkYards$Ledger" "standings" "[I", .fieldLink RX1 27 "TrunkYards$Ledger" "sizes" "[I", .fieldLink RX1 33 "TrunkYards$Ledger" "bookingOfWagon" "[I", .methodLink RX1 46 yX1_get, .instanceMethod yX1_get, .selects RX1 yX1_get yX1_get, .initialized RX1, .code yX1_get cX1_get 3 (some .int), .fieldLink RX1 30 "TrunkYards$Ledger" "booked" "[I"] ++ wsX10)
def wsX1_lapseAll : List Cond := .code yX1_lapseAll cX1_lapseAll 4 (some .int) :: ([.fieldLink RX1 42 "TrunkYards$Ledger" "count" "I", .fieldLink RX1 21 "TrunkYards$Ledger" "standings" "[I", .fieldLink RX1 24 "TrunkYards$Ledger" "lapseTicks" "[I", .methodLink RX1 50 yX1_release, .instanceMethod yX1_release, .selects RX1 yX1_release yX1_release, .initialized RX1, .code yX1_release cX1_release 4 none, .fieldLink RX1 27 "TrunkYards$Ledger" "sizes" "[I", .fieldLink RX1 33 "TrunkYards$Ledger" "bookingOfWagon" "[I", .methodLink RX1 46 yX1_get, .instanceMethod yX1_get, .selects RX1 yX1_get yX1_get, .code yX1_get cX1_get 3 (some .int), .fieldLink RX1 30 "TrunkYards$Ledger" "booked" "[I"] ++ wsX10)
def wsX2_init : List Cond := .code yX2_init cX2_init 1 none :: ([.methodLink RX2 3 objectInit, .instanceMethod objectInit, .code objectInit ⟨#[0xb1]⟩ 1 none, .arrayClass .int, .fieldLink RX2 9 "TrunkYards$Rows" "counts" "[I", .fieldLink RX2 15 "TrunkYards$Rows" "standing" "[I"] ++ wsX20)
def wsX2_count : List Cond := .code yX2_count cX2_count 2 (some .int) :: ([.fieldLink RX2 9 "TrunkYards$Rows" "counts" "[I"] ++ wsX20)
def wsX2_get : List Cond := .code yX2_get cX2_get 3 (some .int) :: ([.fieldLink RX2 15 "TrunkYards$Rows" "standing" "[I"] ++ wsX20)
def wsX2_hasRoom : List Cond := .code yX2_hasRoom cX2_hasRoom 3 (some .boolean) :: ([.fieldLink RX2 9 "TrunkYards$Rows" "counts" "[I"] ++ wsX20)
def wsX2_findOnTracks : List Cond := .code yX2_findOnTracks cX2_findOnTracks 4 (some .int) :: ([.fieldLink RX2 9 "TrunkYards$Rows" "counts" "[I", .methodLink RX2 18 yX2_get, .instanceMethod yX2_get, .selects RX2 yX2_get yX2_get, .initialized RX2, .code yX2_get cX2_get 3 (some .int), .fieldLink RX2 15 "TrunkYards$Rows" "standing" "[I"] ++ wsX20)
def wsX3_init : List Cond := .code yX3_init cX3_init 1 none :: ([.methodLink RX3 3 objectInit, .instanceMethod objectInit, .code objectInit ⟨#[0xb1]⟩ 1 none, .arrayClass .int, .fieldLink RX3 9 "TrunkYards$Switchboard" "customers" "[I", .fieldLink RX3 15 "TrunkYards$Switchboard" "yards" "[I", .fieldLink RX3 18 "TrunkYards$Switchboard" "openBookings" "[I", .fieldLink RX3 21 "TrunkYards$Switchboard" "firstTrunks" "[I", .fieldLink RX3 24 "TrunkYards$Switchboard" "secondTrunks" "[I", .fieldLink RX3 27 "TrunkYards$Switchboard" "ongoingCalls" "[I", .fieldLink RX3 30 "TrunkYards$Switchboard" "trunks" "[I", .fieldLink RX3 33 "TrunkYards$Switchboard" "lineCounts" "[I", .methodLink RX3 36 yJ7_fill_53178, .static yJ7_fill_53178, .initialized RJ7, .code yJ7_fill_53178 cJ7_fill_53178 4 none] ++ wsX30)
def wsX3_hasBegun : List Cond := .code yX3_hasBegun cX3_hasBegun 2 (some .boolean) :: ([.fieldLink RX3 42 "TrunkYards$Switchboard" "begun" "I"] ++ wsX30)
def wsX3_isFull : List Cond := .code yX3_isFull cX3_isFull 1 (some .boolean) :: ([.fieldLink RX3 42 "TrunkYards$Switchboard" "begun" "I"] ++ wsX30)
def wsX3_ongoing : List Cond := .code yX3_ongoing cX3_ongoing 2 (some .int) :: ([.fieldLink RX3 27 "TrunkYards$Switchboard" "ongoingCalls" "[I"] ++ wsX30)
def wsX3_goesOn : List Cond := .code yX3_goesOn cX3_goesOn 2 (some .boolean) :: ([.fieldLink RX3 27 "TrunkYards$Switchboard" "ongoingCalls" "[I", .fieldLink RX3 9 "TrunkYards$Switchboard" "customers" "[I"] ++ wsX30)
def wsX3_customer : List Cond := .code yX3_customer cX3_customer 2 (some .int) :: ([.fieldLink RX3 9 "TrunkYards$Switchboard" "customers" "[I"] ++ wsX30)
def wsX3_yard : List Cond := .code yX3_yard cX3_yard 2 (some .int) :: ([.fieldLink RX3 15 "TrunkYards$Switchboard" "yards" "[I"] ++ wsX30)
def wsX3_openBooking : List Cond := .code yX3_openBooking cX3_openBooking 2 (some .int) :: ([.fieldLink RX3 18 "TrunkYards$Switchboard" "openBookings" "[I"] ++ wsX30)
def wsX3_setOpenBooking : List Cond := .code yX3_setOpenBooking cX3_setOpenBooking 3 none :: ([.fieldLink RX3 18 "TrunkYards$Switchboard" "openBookings" "[I"] ++ wsX30)
def wsX3_trunksOf : List Cond := .code yX3_trunksOf cX3_trunksOf 2 (some .int) :: ([.fieldLink RX3 21 "TrunkYards$Switchboard" "firstTrunks" "[I", .fieldLink RX3 24 "TrunkYards$Switchboard" "secondTrunks" "[I"] ++ wsX30)
def wsX3_trunkHas : List Cond := .code yX3_trunkHas cX3_trunkHas 2 (some .int) :: ([.fieldLink RX3 30 "TrunkYards$Switchboard" "trunks" "[I"] ++ wsX30)
def wsX3_setTrunk : List Cond := .code yX3_setTrunk cX3_setTrunk 3 none :: ([.fieldLink RX3 30 "TrunkYards$Switchboard" "trunks" "[I"] ++ wsX30)
def wsX3_callsTo : List Cond := .code yX3_callsTo cX3_callsTo 5 (some .int) :: ([.fieldLink RX3 27 "TrunkYards$Switchboard" "ongoingCalls" "[I", .fieldLink RX3 15 "TrunkYards$Switchboard" "yards" "[I"] ++ wsX30)
def wsX3_changeLines : List Cond := .code yX3_changeLines cX3_changeLines 4 (some .int) :: ([.fieldLink RX3 33 "TrunkYards$Switchboard" "lineCounts" "[I"] ++ wsX30)
def wsX3_occupy : List Cond := .code yX3_occupy cX3_occupy 3 none :: ([.fieldLink RX3 30 "TrunkYards$Switchboard" "trunks" "[I"] ++ wsX30)
def wsX3_connect : List Cond := .code yX3_connect cX3_connect 6 (some .int) :: ([.fieldLink RX3 42 "TrunkYards$Switchboard" "begun" "I", .fieldLink RX3 9 "TrunkYards$Switchboard" "customers" "[I", .fieldLink RX3 15 "TrunkYards$Switchboard" "yards" "[I", .fieldLink RX3 18 "TrunkYards$Switchboard" "openBookings" "[I", .fieldLink RX3 21 "TrunkYards$Switchboard" "firstTrunks" "[I", .fieldLink RX3 24 "TrunkYards$Switchboard" "secondTrunks" "[I", .fieldLink RX3 27 "TrunkYards$Switchboard" "ongoingCalls" "[I", .methodLink RX3 58 yX3_occupy, .instanceMethod yX3_occupy, .selects RX3 yX3_occupy yX3_occupy, .initialized RX3, .code yX3_occupy cX3_occupy 3 none, .fieldLink RX3 30 "TrunkYards$Switchboard" "trunks" "[I"] ++ wsX30)
def wsX4_slotOf : List Cond := .code yX4_slotOf cX4_slotOf 3 (some .int) :: ([])
def wsX3_freeTrunk : List Cond := .code yX3_freeTrunk cX3_freeTrunk 5 (some .int) :: ([.fieldLink RX3 30 "TrunkYards$Switchboard" "trunks" "[I", .static yX4_slotOf, .initialized RX4, .code yX4_slotOf cX4_slotOf 3 (some .int)] ++ wsX30)
def wsX3_begin_r1 : List Cond := [Cond.fieldLink RX3 33 "TrunkYards$Switchboard" "lineCounts" "[I", Cond.methodLink RX3 46 yX3_callsTo, Cond.instanceMethod yX3_callsTo, Cond.selects RX3 yX3_callsTo yX3_callsTo, Cond.initialized RX3, Cond.code yX3_callsTo cX3_callsTo 5 (some .int), Cond.fieldLink RX3 27 "TrunkYards$Switchboard" "ongoingCalls" "[I", Cond.fieldLink RX3 15 "TrunkYards$Switchboard" "yards" "[I", Cond.methodLink RX3 50 yX3_connect, Cond.instanceMethod yX3_connect, Cond.selects RX3 yX3_connect yX3_connect, Cond.code yX3_connect cX3_connect 6 (some .int), Cond.fieldLink RX3 42 "TrunkYards$Switchboard" "begun" "I", Cond.fieldLink RX3 9 "TrunkYards$Switchboard" "customers" "[I", Cond.fieldLink RX3 18 "TrunkYards$Switchboard" "openBookings" "[I", Cond.fieldLink RX3 21 "TrunkYards$Switchboard" "firstTrunks" "[I", Cond.fieldLink RX3 24 "TrunkYards$Switchboard" "secondTrunks" "[I", Cond.methodLink RX3 58 yX3_occupy, Cond.instanceMethod yX3_occupy, Cond.selects RX3 yX3_occupy yX3_occupy, Cond.code yX3_occupy cX3_occupy 3 none, Cond.fieldLink RX3 30 "TrunkYards$Switchboard" "trunks" "[I", Cond.methodLink RX3 54 yX3_freeTrunk, Cond.instanceMethod yX3_freeTrunk]
def wsX3_begin_r2 : List Cond := [Cond.selects RX3 yX3_freeTrunk yX3_freeTrunk, Cond.code yX3_freeTrunk cX3_freeTrunk 5 (some .int), Cond.static yX4_slotOf, Cond.initialized RX4, Cond.code yX4_slotOf cX4_slotOf 3 (some .int)]
def wsX3_begin : List Cond := .code yX3_begin cX3_begin 8 (some .int) :: ((wsX3_begin_r1 ++ wsX3_begin_r2) ++ wsX30)
def wsX3_end : List Cond := .code yX3_end cX3_end 2 none :: ([.fieldLink RX3 27 "TrunkYards$Switchboard" "ongoingCalls" "[I", .fieldLink RX3 9 "TrunkYards$Switchboard" "customers" "[I", .fieldLink RX3 21 "TrunkYards$Switchboard" "firstTrunks" "[I", .fieldLink RX3 24 "TrunkYards$Switchboard" "secondTrunks" "[I", .methodLink RX3 58 yX3_occupy, .instanceMethod yX3_occupy, .selects RX3 yX3_occupy yX3_occupy, .initialized RX3, .code yX3_occupy cX3_occupy 3 none, .fieldLink RX3 30 "TrunkYards$Switchboard" "trunks" "[I"] ++ wsX30)
def wsX4_init_r1 : List Cond := [Cond.methodLink RX4 3 objectInit, Cond.instanceMethod objectInit, Cond.code objectInit ⟨#[0xb1]⟩ 1 none, Cond.classLink RX4 9 RX2, Cond.instantiable RX2 2, Cond.initialized RX2, Cond.fieldLink RX4 12 "TrunkYards" "rows" "LTrunkYards$Rows;", Cond.fieldLink RX4 16 "TrunkYards" "replayed" "LTrunkYards$Rows;", Cond.classLink RX4 19 RX0, Cond.instantiable RX0 4, Cond.initialized RX0, Cond.fieldLink RX4 22 "TrunkYards" "history" "LTrunkYards$History;", Cond.classLink RX4 26 RX1, Cond.instantiable RX1 9, Cond.initialized RX1, Cond.fieldLink RX4 29 "TrunkYards" "ledger" "LTrunkYards$Ledger;", Cond.classLink RX4 33 RX3, Cond.instantiable RX3 9, Cond.initialized RX3, Cond.fieldLink RX4 36 "TrunkYards" "board" "LTrunkYards$Switchboard;", Cond.arrayClass .int, Cond.fieldLink RX4 40 "TrunkYards" "lastGrain" "[I", Cond.arrayClass .boolean, Cond.fieldLink RX4 50 "TrunkYards" "mayFollow" "[Z"]
def wsX4_init_r2 : List Cond := [Cond.fieldLink RX4 54 "TrunkYards" "destination" "[I", Cond.instanceMethod yX2_init, Cond.code yX2_init cX2_init 1 none, Cond.methodLink RX2 3 objectInit, Cond.fieldLink RX2 9 "TrunkYards$Rows" "counts" "[I", Cond.fieldLink RX2 15 "TrunkYards$Rows" "standing" "[I", Cond.instanceMethod yX0_init, Cond.code yX0_init cX0_init 1 none, Cond.methodLink RX0 3 objectInit, Cond.fieldLink RX0 9 "TrunkYards$History" "from" "[I", Cond.fieldLink RX0 15 "TrunkYards$History" "to" "[I", Cond.fieldLink RX0 18 "TrunkYards$History" "many" "[I", Cond.methodLink RX4 28 yX1_init, Cond.instanceMethod yX1_init, Cond.code yX1_init cX1_init 1 none, Cond.methodLink RX1 3 objectInit, Cond.fieldLink RX1 9 "TrunkYards$Ledger" "customers" "[I", Cond.fieldLink RX1 15 "TrunkYards$Ledger" "yards" "[I", Cond.fieldLink RX1 18 "TrunkYards$Ledger" "grains" "[I", Cond.fieldLink RX1 21 "TrunkYards$Ledger" "standings" "[I", Cond.fieldLink RX1 24 "TrunkYards$Ledger" "lapseTicks" "[I", Cond.fieldLink RX1 27 "TrunkYards$Ledger" "sizes" "[I", Cond.fieldLink RX1 30 "TrunkYards$Ledger" "booked" "[I", Cond.fieldLink RX1 33 "TrunkYards$Ledger" "bookingOfWagon" "[I"]
def wsX4_init_r3 : List Cond := [Cond.methodLink RX1 36 yJ7_fill_53178, Cond.static yJ7_fill_53178, Cond.initialized RJ7, Cond.code yJ7_fill_53178 cJ7_fill_53178 4 none, Cond.methodLink RX4 35 yX3_init, Cond.instanceMethod yX3_init, Cond.code yX3_init cX3_init 1 none, Cond.methodLink RX3 3 objectInit, Cond.fieldLink RX3 9 "TrunkYards$Switchboard" "customers" "[I", Cond.fieldLink RX3 15 "TrunkYards$Switchboard" "yards" "[I", Cond.fieldLink RX3 18 "TrunkYards$Switchboard" "openBookings" "[I", Cond.fieldLink RX3 21 "TrunkYards$Switchboard" "firstTrunks" "[I", Cond.fieldLink RX3 24 "TrunkYards$Switchboard" "secondTrunks" "[I", Cond.fieldLink RX3 27 "TrunkYards$Switchboard" "ongoingCalls" "[I", Cond.fieldLink RX3 30 "TrunkYards$Switchboard" "trunks" "[I", Cond.fieldLink RX3 33 "TrunkYards$Switchboard" "lineCounts" "[I", Cond.methodLink RX3 36 yJ7_fill_53178, Cond.methodLink RX4 44 yJ7_fill_53178]
def wsX4_init : List Cond := .code yX4_init cX4_init 1 none :: ((wsX4_init_r1 ++ (wsX4_init_r2 ++ wsX4_init_r3)) ++ wsX20 ++ wsX40 ++ wsX00 ++ wsX10 ++ wsX30)
def wsX4_isYard : List Cond := .code yX4_isYard cX4_isYard 1 (some .boolean) :: ([])
def wsX4_isTrack : List Cond := .code yX4_isTrack cX4_isTrack 1 (some .boolean) :: ([])
def wsX4_requireTrack : List Cond := .code yX4_requireTrack cX4_requireTrack 2 none :: ([.classLink RX4 86 "java/lang/IllegalArgumentException", .initialized "java/lang/IllegalArgumentException", .methodLink RX4 297 yX4_isYard, .static yX4_isYard, .initialized RX4, .code yX4_isYard cX4_isYard 1 (some .boolean), .methodLink RX4 287 yX4_isTrack, .static yX4_isTrack, .code yX4_isTrack cX4_isTrack 1 (some .boolean)] ++ (vx_atS RX4 90 "java/lang/IllegalArgumentException" ["java/lang/RuntimeException", "java/lang/Exception"]).filter goodWord)
def wsX4_rowOf : List Cond := .code yX4_rowOf cX4_rowOf 2 (some .int) :: ([])
def wsX4_wagon_r1 : List Cond := [Cond.classLink RX4 73 "java/lang/IllegalStateException", Cond.initialized "java/lang/IllegalStateException", Cond.fieldLink RX4 65 "TrunkYards" "placed" "I", Cond.fieldLink RX4 12 "TrunkYards" "rows" "LTrunkYards$Rows;", Cond.fieldLink RX4 22 "TrunkYards" "history" "LTrunkYards$History;", Cond.methodLink RX4 57 yX4_requireTrack, Cond.static yX4_requireTrack, Cond.initialized RX4, Cond.code yX4_requireTrack cX4_requireTrack 2 none, Cond.classLink RX4 86 "java/lang/IllegalArgumentException", Cond.initialized "java/lang/IllegalArgumentException", Cond.methodLink RX4 297 yX4_isYard, Cond.static yX4_isYard, Cond.code yX4_isYard cX4_isYard 1 (some .boolean), Cond.methodLink RX4 287 yX4_isTrack, Cond.static yX4_isTrack, Cond.code yX4_isTrack cX4_isTrack 1 (some .boolean), Cond.methodLink RX4 61 yX4_rowOf, Cond.static yX4_rowOf, Cond.code yX4_rowOf cX4_rowOf 2 (some .int), Cond.methodLink RX4 69 yX2_hasRoom, Cond.instanceMethod yX2_hasRoom, Cond.selects RX2 yX2_hasRoom yX2_hasRoom, Cond.initialized RX2]
def wsX4_wagon_r2 : List Cond := [Cond.code yX2_hasRoom cX2_hasRoom 3 (some .boolean), Cond.fieldLink RX2 9 "TrunkYards$Rows" "counts" "[I", Cond.methodLink RX4 80 yX2_put, Cond.instanceMethod yX2_put, Cond.selects RX2 yX2_put yX2_put, Cond.code yX2_put cX2_put 3 none, Cond.fieldLink RX2 15 "TrunkYards$Rows" "standing" "[I", Cond.methodLink RX4 83 yX0_notePlacing, Cond.instanceMethod yX0_notePlacing, Cond.selects RX0 yX0_notePlacing yX0_notePlacing, Cond.initialized RX0, Cond.code yX0_notePlacing cX0_notePlacing 3 none, Cond.methodLink RX0 21 yX0_noteMove, Cond.instanceMethod yX0_noteMove, Cond.selects RX0 yX0_noteMove yX0_noteMove, Cond.code yX0_noteMove cX0_noteMove 4 none, Cond.fieldLink RX0 25 "TrunkYards$History" "noted" "I", Cond.fieldLink RX0 9 "TrunkYards$History" "from" "[I", Cond.fieldLink RX0 15 "TrunkYards$History" "to" "[I", Cond.fieldLink RX0 18 "TrunkYards$History" "many" "[I"]
def wsX4_wagon : List Cond := .code yX4_wagon cX4_wagon 5 (some .int) :: ((wsX4_wagon_r1 ++ wsX4_wagon_r2) ++ wsX40 ++ wsX20 ++ wsX00 ++ (vx_atS RX4 77 "java/lang/IllegalStateException" ["java/lang/RuntimeException", "java/lang/Exception"]).filter goodWord ++ (vx_atS RX4 90 "java/lang/IllegalArgumentException" ["java/lang/RuntimeException", "java/lang/Exception"]).filter goodWord)
def wsX4_moveLast : List Cond := .code yX4_moveLast cX4_moveLast 4 none :: ([.fieldLink RX4 12 "TrunkYards" "rows" "LTrunkYards$Rows;", .fieldLink RX4 22 "TrunkYards" "history" "LTrunkYards$History;", .methodLink RX4 327 yX2_move, .instanceMethod yX2_move, .selects RX2 yX2_move yX2_move, .initialized RX2, .code yX2_move cX2_move 7 none, .fieldLink RX2 9 "TrunkYards$Rows" "counts" "[I", .fieldLink RX2 15 "TrunkYards$Rows" "standing" "[I", .methodLink RX4 330 yX0_noteMove, .instanceMethod yX0_noteMove, .selects RX0 yX0_noteMove yX0_noteMove, .initialized RX0, .code yX0_noteMove cX0_noteMove 4 none, .fieldLink RX0 25 "TrunkYards$History" "noted" "I", .fieldLink RX0 9 "TrunkYards$History" "from" "[I", .fieldLink RX0 15 "TrunkYards$History" "to" "[I", .fieldLink RX0 18 "TrunkYards$History" "many" "[I"] ++ wsX40 ++ wsX20 ++ wsX00)
def wsX4_shunt_r1 : List Cond := [Cond.classLink RX4 86 "java/lang/IllegalArgumentException", Cond.initialized "java/lang/IllegalArgumentException", Cond.classLink RX4 73 "java/lang/IllegalStateException", Cond.initialized "java/lang/IllegalStateException", Cond.fieldLink RX4 12 "TrunkYards" "rows" "LTrunkYards$Rows;", Cond.methodLink RX4 57 yX4_requireTrack, Cond.static yX4_requireTrack, Cond.initialized RX4, Cond.code yX4_requireTrack cX4_requireTrack 2 none, Cond.methodLink RX4 297 yX4_isYard, Cond.static yX4_isYard, Cond.code yX4_isYard cX4_isYard 1 (some .boolean), Cond.methodLink RX4 287 yX4_isTrack, Cond.static yX4_isTrack, Cond.code yX4_isTrack cX4_isTrack 1 (some .boolean), Cond.methodLink RX4 61 yX4_rowOf, Cond.static yX4_rowOf, Cond.code yX4_rowOf cX4_rowOf 2 (some .int), Cond.methodLink RX4 91 yX2_count, Cond.instanceMethod yX2_count, Cond.selects RX2 yX2_count yX2_count, Cond.initialized RX2, Cond.code yX2_count cX2_count 2 (some .int), Cond.fieldLink RX2 9 "TrunkYards$Rows" "counts" "[I"]
def wsX4_shunt_r2 : List Cond := [Cond.methodLink RX4 69 yX2_hasRoom, Cond.instanceMethod yX2_hasRoom, Cond.selects RX2 yX2_hasRoom yX2_hasRoom, Cond.code yX2_hasRoom cX2_hasRoom 3 (some .boolean), Cond.methodLink RX4 97 yX4_moveLast, Cond.instanceMethod yX4_moveLast, Cond.selects RX4 yX4_moveLast yX4_moveLast, Cond.code yX4_moveLast cX4_moveLast 4 none, Cond.fieldLink RX4 22 "TrunkYards" "history" "LTrunkYards$History;", Cond.methodLink RX4 327 yX2_move, Cond.instanceMethod yX2_move, Cond.selects RX2 yX2_move yX2_move, Cond.code yX2_move cX2_move 7 none, Cond.fieldLink RX2 15 "TrunkYards$Rows" "standing" "[I", Cond.methodLink RX4 330 yX0_noteMove, Cond.instanceMethod yX0_noteMove, Cond.selects RX0 yX0_noteMove yX0_noteMove, Cond.initialized RX0, Cond.code yX0_noteMove cX0_noteMove 4 none, Cond.fieldLink RX0 25 "TrunkYards$History" "noted" "I", Cond.fieldLink RX0 9 "TrunkYards$History" "from" "[I", Cond.fieldLink RX0 15 "TrunkYards$History" "to" "[I", Cond.fieldLink RX0 18 "TrunkYards$History" "many" "[I"]
def wsX4_shunt : List Cond := .code yX4_shunt cX4_shunt 7 (some .int) :: ((wsX4_shunt_r1 ++ wsX4_shunt_r2) ++ wsX40 ++ wsX20 ++ wsX00 ++ (vx_atS RX4 90 "java/lang/IllegalArgumentException" ["java/lang/RuntimeException", "java/lang/Exception"]).filter goodWord ++ (vx_atS RX4 77 "java/lang/IllegalStateException" ["java/lang/RuntimeException", "java/lang/Exception"]).filter goodWord)
def wsX4_requireYard : List Cond := .code yX4_requireYard cX4_requireYard 1 none :: ([.classLink RX4 86 "java/lang/IllegalArgumentException", .initialized "java/lang/IllegalArgumentException", .methodLink RX4 297 yX4_isYard, .static yX4_isYard, .initialized RX4, .code yX4_isYard cX4_isYard 1 (some .boolean)] ++ (vx_atS RX4 90 "java/lang/IllegalArgumentException" ["java/lang/RuntimeException", "java/lang/Exception"]).filter goodWord)
def wsX4_wash_r1 : List Cond := [Cond.classLink RX4 73 "java/lang/IllegalStateException", Cond.initialized "java/lang/IllegalStateException", Cond.fieldLink RX4 12 "TrunkYards" "rows" "LTrunkYards$Rows;", Cond.fieldLink RX4 40 "TrunkYards" "lastGrain" "[I", Cond.methodLink RX4 101 yX4_requireYard, Cond.static yX4_requireYard, Cond.initialized RX4, Cond.code yX4_requireYard cX4_requireYard 1 none, Cond.classLink RX4 86 "java/lang/IllegalArgumentException", Cond.initialized "java/lang/IllegalArgumentException", Cond.methodLink RX4 297 yX4_isYard, Cond.static yX4_isYard, Cond.code yX4_isYard cX4_isYard 1 (some .boolean), Cond.methodLink RX4 61 yX4_rowOf, Cond.static yX4_rowOf, Cond.code yX4_rowOf cX4_rowOf 2 (some .int), Cond.methodLink RX4 91 yX2_count, Cond.instanceMethod yX2_count, Cond.selects RX2 yX2_count yX2_count, Cond.initialized RX2, Cond.code yX2_count cX2_count 2 (some .int), Cond.fieldLink RX2 9 "TrunkYards$Rows" "counts" "[I", Cond.methodLink RX4 107 yX2_get, Cond.instanceMethod yX2_get]
def wsX4_wash_r2 : List Cond := [Cond.selects RX2 yX2_get yX2_get, Cond.code yX2_get cX2_get 3 (some .int), Cond.fieldLink RX2 15 "TrunkYards$Rows" "standing" "[I"]
def wsX4_wash : List Cond := .code yX4_wash cX4_wash 6 (some .int) :: ((wsX4_wash_r1 ++ wsX4_wash_r2) ++ wsX40 ++ wsX20 ++ (vx_atS RX4 77 "java/lang/IllegalStateException" ["java/lang/RuntimeException", "java/lang/Exception"]).filter goodWord ++ (vx_atS RX4 90 "java/lang/IllegalArgumentException" ["java/lang/RuntimeException", "java/lang/Exception"]).filter goodWord)
def wsX4_isGrain : List Cond := .code yX4_isGrain cX4_isGrain 1 (some .boolean) :: ([])
def wsX4_follow : List Cond := .code yX4_follow cX4_follow 4 (some .boolean) :: ([.classLink RX4 86 "java/lang/IllegalArgumentException", .initialized "java/lang/IllegalArgumentException", .fieldLink RX4 50 "TrunkYards" "mayFollow" "[Z", .methodLink RX4 110 yX4_isGrain, .static yX4_isGrain, .initialized RX4, .code yX4_isGrain cX4_isGrain 1 (some .boolean)] ++ wsX40 ++ (vx_atS RX4 90 "java/lang/IllegalArgumentException" ["java/lang/RuntimeException", "java/lang/Exception"]).filter goodWord)
def wsX4_on : List Cond := .code yX4_on cX4_on 3 (some .int) :: ([.fieldLink RX4 12 "TrunkYards" "rows" "LTrunkYards$Rows;", .methodLink RX4 57 yX4_requireTrack, .static yX4_requireTrack, .initialized RX4, .code yX4_requireTrack cX4_requireTrack 2 none, .classLink RX4 86 "java/lang/IllegalArgumentException", .initialized "java/lang/IllegalArgumentException", .methodLink RX4 297 yX4_isYard, .static yX4_isYard, .code yX4_isYard cX4_isYard 1 (some .boolean), .methodLink RX4 287 yX4_isTrack, .static yX4_isTrack, .code yX4_isTrack cX4_isTrack 1 (some .boolean), .methodLink RX4 61 yX4_rowOf, .static yX4_rowOf, .code yX4_rowOf cX4_rowOf 2 (some .int), .methodLink RX4 91 yX2_count, .instanceMethod yX2_count, .selects RX2 yX2_count yX2_count, .initialized RX2, .code yX2_count cX2_count 2 (some .int), .fieldLink RX2 9 "TrunkYards$Rows" "counts" "[I"] ++ wsX40 ++ wsX20 ++ (vx_atS RX4 90 "java/lang/IllegalArgumentException" ["java/lang/RuntimeException", "java/lang/Exception"]).filter goodWord)
def wsX4_wagonIn : List Cond := .code yX4_wagonIn cX4_wagonIn 3 (some .int) :: ([.classLink RX4 261 "java/lang/IndexOutOfBoundsException", .initialized "java/lang/IndexOutOfBoundsException", .methodLink RX4 91 yX2_count, .instanceMethod yX2_count, .selects RX2 yX2_count yX2_count, .initialized RX2, .code yX2_count cX2_count 2 (some .int), .fieldLink RX2 9 "TrunkYards$Rows" "counts" "[I", .methodLink RX4 107 yX2_get, .instanceMethod yX2_get, .selects RX2 yX2_get yX2_get, .code yX2_get cX2_get 3 (some .int), .fieldLink RX2 15 "TrunkYards$Rows" "standing" "[I"] ++ wsX20 ++ (vx_atS RX4 265 "java/lang/IndexOutOfBoundsException" ["java/lang/RuntimeException", "java/lang/Exception"]).filter goodWord)
def wsX4_at_r1 : List Cond := [Cond.fieldLink RX4 12 "TrunkYards" "rows" "LTrunkYards$Rows;", Cond.methodLink RX4 57 yX4_requireTrack, Cond.static yX4_requireTrack, Cond.initialized RX4, Cond.code yX4_requireTrack cX4_requireTrack 2 none, Cond.classLink RX4 86 "java/lang/IllegalArgumentException", Cond.initialized "java/lang/IllegalArgumentException", Cond.methodLink RX4 297 yX4_isYard, Cond.static yX4_isYard, Cond.code yX4_isYard cX4_isYard 1 (some .boolean), Cond.methodLink RX4 287 yX4_isTrack, Cond.static yX4_isTrack, Cond.code yX4_isTrack cX4_isTrack 1 (some .boolean), Cond.methodLink RX4 61 yX4_rowOf, Cond.static yX4_rowOf, Cond.code yX4_rowOf cX4_rowOf 2 (some .int), Cond.methodLink RX4 116 yX4_wagonIn, Cond.static yX4_wagonIn, Cond.code yX4_wagonIn cX4_wagonIn 3 (some .int), Cond.classLink RX4 261 "java/lang/IndexOutOfBoundsException", Cond.initialized "java/lang/IndexOutOfBoundsException", Cond.methodLink RX4 91 yX2_count, Cond.instanceMethod yX2_count, Cond.selects RX2 yX2_count yX2_count]
def wsX4_at_r2 : List Cond := [Cond.initialized RX2, Cond.code yX2_count cX2_count 2 (some .int), Cond.fieldLink RX2 9 "TrunkYards$Rows" "counts" "[I", Cond.methodLink RX4 107 yX2_get, Cond.instanceMethod yX2_get, Cond.selects RX2 yX2_get yX2_get, Cond.code yX2_get cX2_get 3 (some .int), Cond.fieldLink RX2 15 "TrunkYards$Rows" "standing" "[I"]
def wsX4_at : List Cond := .code yX4_at cX4_at 4 (some .int) :: ((wsX4_at_r1 ++ wsX4_at_r2) ++ wsX40 ++ wsX20 ++ (vx_atS RX4 90 "java/lang/IllegalArgumentException" ["java/lang/RuntimeException", "java/lang/Exception"]).filter goodWord ++ (vx_atS RX4 265 "java/lang/IndexOutOfBoundsException" ["java/lang/RuntimeException", "java/lang/Exception"]).filter goodWord)
def wsX4_atByReplay_r1 : List Cond := [Cond.fieldLink RX4 22 "TrunkYards" "history" "LTrunkYards$History;", Cond.fieldLink RX4 16 "TrunkYards" "replayed" "LTrunkYards$Rows;", Cond.methodLink RX4 57 yX4_requireTrack, Cond.static yX4_requireTrack, Cond.initialized RX4, Cond.code yX4_requireTrack cX4_requireTrack 2 none, Cond.classLink RX4 86 "java/lang/IllegalArgumentException", Cond.initialized "java/lang/IllegalArgumentException", Cond.methodLink RX4 297 yX4_isYard, Cond.static yX4_isYard, Cond.code yX4_isYard cX4_isYard 1 (some .boolean), Cond.methodLink RX4 287 yX4_isTrack, Cond.static yX4_isTrack, Cond.code yX4_isTrack cX4_isTrack 1 (some .boolean), Cond.methodLink RX4 120 yX0_replay, Cond.instanceMethod yX0_replay, Cond.selects RX0 yX0_replay yX0_replay, Cond.initialized RX0, Cond.code yX0_replay cX0_replay 3 none, Cond.fieldLink RX0 25 "TrunkYards$History" "noted" "I", Cond.fieldLink RX0 9 "TrunkYards$History" "from" "[I", Cond.fieldLink RX0 15 "TrunkYards$History" "to" "[I", Cond.fieldLink RX0 18 "TrunkYards$History" "many" "[I", Cond.methodLink RX0 29 yX2_clear]
def wsX4_atByReplay_r2 : List Cond := [Cond.instanceMethod yX2_clear, Cond.selects RX2 yX2_clear yX2_clear, Cond.initialized RX2, Cond.code yX2_clear cX2_clear 1 none, Cond.fieldLink RX2 9 "TrunkYards$Rows" "counts" "[I", Cond.methodLink RX2 22 yJ7_fill_53178, Cond.static yJ7_fill_53178, Cond.initialized RJ7, Cond.code yJ7_fill_53178 cJ7_fill_53178 4 none, Cond.methodLink RX0 34 yX2_put, Cond.instanceMethod yX2_put, Cond.selects RX2 yX2_put yX2_put, Cond.code yX2_put cX2_put 3 none, Cond.fieldLink RX2 15 "TrunkYards$Rows" "standing" "[I", Cond.methodLink RX0 38 yX2_move, Cond.instanceMethod yX2_move, Cond.selects RX2 yX2_move yX2_move, Cond.code yX2_move cX2_move 7 none, Cond.methodLink RX4 61 yX4_rowOf, Cond.static yX4_rowOf, Cond.code yX4_rowOf cX4_rowOf 2 (some .int), Cond.methodLink RX4 116 yX4_wagonIn, Cond.static yX4_wagonIn, Cond.code yX4_wagonIn cX4_wagonIn 3 (some .int)]
def wsX4_atByReplay_r3 : List Cond := [Cond.classLink RX4 261 "java/lang/IndexOutOfBoundsException", Cond.initialized "java/lang/IndexOutOfBoundsException", Cond.methodLink RX4 91 yX2_count, Cond.instanceMethod yX2_count, Cond.selects RX2 yX2_count yX2_count, Cond.code yX2_count cX2_count 2 (some .int), Cond.methodLink RX4 107 yX2_get, Cond.instanceMethod yX2_get, Cond.selects RX2 yX2_get yX2_get, Cond.code yX2_get cX2_get 3 (some .int)]
def wsX4_atByReplay : List Cond := .code yX4_atByReplay cX4_atByReplay 4 (some .int) :: ((wsX4_atByReplay_r1 ++ (wsX4_atByReplay_r2 ++ wsX4_atByReplay_r3)) ++ wsX40 ++ wsX00 ++ wsX20 ++ (vx_atS RX4 90 "java/lang/IllegalArgumentException" ["java/lang/RuntimeException", "java/lang/Exception"]).filter goodWord ++ (vx_atS RX4 265 "java/lang/IndexOutOfBoundsException" ["java/lang/RuntimeException", "java/lang/Exception"]).filter goodWord)
def wsX4_requireWagon : List Cond := .code yX4_requireWagon cX4_requireWagon 2 none :: ([.classLink RX4 261 "java/lang/IndexOutOfBoundsException", .initialized "java/lang/IndexOutOfBoundsException", .fieldLink RX4 65 "TrunkYards" "placed" "I"] ++ wsX40 ++ (vx_atS RX4 265 "java/lang/IndexOutOfBoundsException" ["java/lang/RuntimeException", "java/lang/Exception"]).filter goodWord)
def wsX4_where : List Cond := .code yX4_where cX4_where 3 (some .int) :: ([.fieldLink RX4 12 "TrunkYards" "rows" "LTrunkYards$Rows;", .methodLink RX4 124 yX4_requireWagon, .instanceMethod yX4_requireWagon, .selects RX4 yX4_requireWagon yX4_requireWagon, .initialized RX4, .code yX4_requireWagon cX4_requireWagon 2 none, .classLink RX4 261 "java/lang/IndexOutOfBoundsException", .initialized "java/lang/IndexOutOfBoundsException", .fieldLink RX4 65 "TrunkYards" "placed" "I", .methodLink RX4 127 yX2_findOnTracks, .instanceMethod yX2_findOnTracks, .selects RX2 yX2_findOnTracks yX2_findOnTracks, .initialized RX2, .code yX2_findOnTracks cX2_findOnTracks 4 (some .int), .fieldLink RX2 9 "TrunkYards$Rows" "counts" "[I", .methodLink RX2 18 yX2_get, .instanceMethod yX2_get, .selects RX2 yX2_get yX2_get, .code yX2_get cX2_get 3 (some .int), .fieldLink RX2 15 "TrunkYards$Rows" "standing" "[I"] ++ wsX40 ++ wsX20 ++ (vx_atS RX4 265 "java/lang/IndexOutOfBoundsException" ["java/lang/RuntimeException", "java/lang/Exception"]).filter goodWord)
def wsX4_carried : List Cond := .code yX4_carried cX4_carried 2 (some .int) :: ([.fieldLink RX4 40 "TrunkYards" "lastGrain" "[I", .methodLink RX4 124 yX4_requireWagon, .instanceMethod yX4_requireWagon, .selects RX4 yX4_requireWagon yX4_requireWagon, .initialized RX4, .code yX4_requireWagon cX4_requireWagon 2 none, .classLink RX4 261 "java/lang/IndexOutOfBoundsException", .initialized "java/lang/IndexOutOfBoundsException", .fieldLink RX4 65 "TrunkYards" "placed" "I"] ++ wsX40 ++ (vx_atS RX4 265 "java/lang/IndexOutOfBoundsException" ["java/lang/RuntimeException", "java/lang/Exception"]).filter goodWord)
def wsX4_promised : List Cond := .code yX4_promised cX4_promised 2 (some .int) :: ([.fieldLink RX4 29 "TrunkYards" "ledger" "LTrunkYards$Ledger;", .methodLink RX4 124 yX4_requireWagon, .instanceMethod yX4_requireWagon, .selects RX4 yX4_requireWagon yX4_requireWagon, .initialized RX4, .code yX4_requireWagon cX4_requireWagon 2 none, .classLink RX4 261 "java/lang/IndexOutOfBoundsException", .initialized "java/lang/IndexOutOfBoundsException", .fieldLink RX4 65 "TrunkYards" "placed" "I", .methodLink RX4 130 yX1_bookingFor, .instanceMethod yX1_bookingFor, .selects RX1 yX1_bookingFor yX1_bookingFor, .initialized RX1, .code yX1_bookingFor cX1_bookingFor 2 (some .int), .fieldLink RX1 33 "TrunkYards$Ledger" "bookingOfWagon" "[I"] ++ wsX40 ++ wsX10 ++ (vx_atS RX4 265 "java/lang/IndexOutOfBoundsException" ["java/lang/RuntimeException", "java/lang/Exception"]).filter goodWord)
def wsX4_requireCustomer : List Cond := .code yX4_requireCustomer cX4_requireCustomer 1 none :: ([.classLink RX4 86 "java/lang/IllegalArgumentException", .initialized "java/lang/IllegalArgumentException"] ++ (vx_atS RX4 90 "java/lang/IllegalArgumentException" ["java/lang/RuntimeException", "java/lang/Exception"]).filter goodWord)
def wsX4_call_r1 : List Cond := [Cond.classLink RX4 73 "java/lang/IllegalStateException", Cond.initialized "java/lang/IllegalStateException", Cond.fieldLink RX4 36 "TrunkYards" "board" "LTrunkYards$Switchboard;", Cond.fieldLink RX4 148 "TrunkYards" "busyCalls" "I", Cond.methodLink RX4 133 yX4_requireCustomer, Cond.static yX4_requireCustomer, Cond.initialized RX4, Cond.code yX4_requireCustomer cX4_requireCustomer 1 none, Cond.classLink RX4 86 "java/lang/IllegalArgumentException", Cond.initialized "java/lang/IllegalArgumentException", Cond.methodLink RX4 101 yX4_requireYard, Cond.static yX4_requireYard, Cond.code yX4_requireYard cX4_requireYard 1 none, Cond.methodLink RX4 297 yX4_isYard, Cond.static yX4_isYard, Cond.code yX4_isYard cX4_isYard 1 (some .boolean), Cond.methodLink RX4 136 yX3_ongoing, Cond.instanceMethod yX3_ongoing, Cond.selects RX3 yX3_ongoing yX3_ongoing, Cond.initialized RX3, Cond.code yX3_ongoing cX3_ongoing 2 (some .int), Cond.fieldLink RX3 27 "TrunkYards$Switchboard" "ongoingCalls" "[I", Cond.methodLink RX4 139 yX3_isFull, Cond.instanceMethod yX3_isFull]
def wsX4_call_r2 : List Cond := [Cond.selects RX3 yX3_isFull yX3_isFull, Cond.code yX3_isFull cX3_isFull 1 (some .boolean), Cond.fieldLink RX3 42 "TrunkYards$Switchboard" "begun" "I", Cond.methodLink RX4 145 yX3_begin, Cond.instanceMethod yX3_begin, Cond.selects RX3 yX3_begin yX3_begin, Cond.code yX3_begin cX3_begin 8 (some .int), Cond.fieldLink RX3 33 "TrunkYards$Switchboard" "lineCounts" "[I", Cond.methodLink RX3 46 yX3_callsTo, Cond.instanceMethod yX3_callsTo, Cond.selects RX3 yX3_callsTo yX3_callsTo, Cond.code yX3_callsTo cX3_callsTo 5 (some .int), Cond.fieldLink RX3 15 "TrunkYards$Switchboard" "yards" "[I", Cond.methodLink RX3 50 yX3_connect, Cond.instanceMethod yX3_connect, Cond.selects RX3 yX3_connect yX3_connect, Cond.code yX3_connect cX3_connect 6 (some .int), Cond.fieldLink RX3 9 "TrunkYards$Switchboard" "customers" "[I", Cond.fieldLink RX3 18 "TrunkYards$Switchboard" "openBookings" "[I", Cond.fieldLink RX3 21 "TrunkYards$Switchboard" "firstTrunks" "[I", Cond.fieldLink RX3 24 "TrunkYards$Switchboard" "secondTrunks" "[I", Cond.methodLink RX3 58 yX3_occupy, Cond.instanceMethod yX3_occupy, Cond.selects RX3 yX3_occupy yX3_occupy]
def wsX4_call_r3 : List Cond := [Cond.code yX3_occupy cX3_occupy 3 none, Cond.fieldLink RX3 30 "TrunkYards$Switchboard" "trunks" "[I", Cond.methodLink RX3 54 yX3_freeTrunk, Cond.instanceMethod yX3_freeTrunk, Cond.selects RX3 yX3_freeTrunk yX3_freeTrunk, Cond.code yX3_freeTrunk cX3_freeTrunk 5 (some .int), Cond.static yX4_slotOf, Cond.code yX4_slotOf cX4_slotOf 3 (some .int)]
def wsX4_call : List Cond := .code yX4_call cX4_call 4 (some .int) :: ((wsX4_call_r1 ++ (wsX4_call_r2 ++ wsX4_call_r3)) ++ wsX40 ++ wsX30 ++ (vx_atS RX4 77 "java/lang/IllegalStateException" ["java/lang/RuntimeException", "java/lang/Exception"]).filter goodWord ++ (vx_atS RX4 90 "java/lang/IllegalArgumentException" ["java/lang/RuntimeException", "java/lang/Exception"]).filter goodWord)
def wsX4_requireCall : List Cond := .code yX4_requireCall cX4_requireCall 2 none :: ([.classLink RX4 261 "java/lang/IndexOutOfBoundsException", .initialized "java/lang/IndexOutOfBoundsException", .fieldLink RX4 36 "TrunkYards" "board" "LTrunkYards$Switchboard;", .methodLink RX4 313 yX3_hasBegun, .instanceMethod yX3_hasBegun, .selects RX3 yX3_hasBegun yX3_hasBegun, .initialized RX3, .code yX3_hasBegun cX3_hasBegun 2 (some .boolean), .fieldLink RX3 42 "TrunkYards$Switchboard" "begun" "I"] ++ wsX40 ++ wsX30 ++ (vx_atS RX4 265 "java/lang/IndexOutOfBoundsException" ["java/lang/RuntimeException", "java/lang/Exception"]).filter goodWord)
def wsX4_requireOngoing : List Cond := .code yX4_requireOngoing cX4_requireOngoing 2 none :: ([.classLink RX4 73 "java/lang/IllegalStateException", .initialized "java/lang/IllegalStateException", .fieldLink RX4 36 "TrunkYards" "board" "LTrunkYards$Switchboard;", .methodLink RX4 318 yX3_goesOn, .instanceMethod yX3_goesOn, .selects RX3 yX3_goesOn yX3_goesOn, .initialized RX3, .code yX3_goesOn cX3_goesOn 2 (some .boolean), .fieldLink RX3 27 "TrunkYards$Switchboard" "ongoingCalls" "[I", .fieldLink RX3 9 "TrunkYards$Switchboard" "customers" "[I"] ++ wsX40 ++ wsX30 ++ (vx_atS RX4 77 "java/lang/IllegalStateException" ["java/lang/RuntimeException", "java/lang/Exception"]).filter goodWord)
def wsX4_fits : List Cond := .code yX4_fits cX4_fits 4 (some .boolean) :: ([.fieldLink RX4 40 "TrunkYards" "lastGrain" "[I", .fieldLink RX4 50 "TrunkYards" "mayFollow" "[Z"] ++ wsX40)
def wsX4_findWagon_r1 : List Cond := [Cond.fieldLink RX4 12 "TrunkYards" "rows" "LTrunkYards$Rows;", Cond.fieldLink RX4 29 "TrunkYards" "ledger" "LTrunkYards$Ledger;", Cond.methodLink RX4 61 yX4_rowOf, Cond.static yX4_rowOf, Cond.initialized RX4, Cond.code yX4_rowOf cX4_rowOf 2 (some .int), Cond.methodLink RX4 91 yX2_count, Cond.instanceMethod yX2_count, Cond.selects RX2 yX2_count yX2_count, Cond.initialized RX2, Cond.code yX2_count cX2_count 2 (some .int), Cond.fieldLink RX2 9 "TrunkYards$Rows" "counts" "[I", Cond.methodLink RX4 107 yX2_get, Cond.instanceMethod yX2_get, Cond.selects RX2 yX2_get yX2_get, Cond.code yX2_get cX2_get 3 (some .int), Cond.fieldLink RX2 15 "TrunkYards$Rows" "standing" "[I", Cond.methodLink RX4 130 yX1_bookingFor, Cond.instanceMethod yX1_bookingFor, Cond.selects RX1 yX1_bookingFor yX1_bookingFor, Cond.initialized RX1, Cond.code yX1_bookingFor cX1_bookingFor 2 (some .int), Cond.fieldLink RX1 33 "TrunkYards$Ledger" "bookingOfWagon" "[I", Cond.methodLink RX4 333 yX4_fits]
def wsX4_findWagon_r2 : List Cond := [Cond.instanceMethod yX4_fits, Cond.selects RX4 yX4_fits yX4_fits, Cond.code yX4_fits cX4_fits 4 (some .boolean), Cond.fieldLink RX4 40 "TrunkYards" "lastGrain" "[I", Cond.fieldLink RX4 50 "TrunkYards" "mayFollow" "[Z"]
def wsX4_findWagon : List Cond := .code yX4_findWagon cX4_findWagon 8 (some .int) :: ((wsX4_findWagon_r1 ++ wsX4_findWagon_r2) ++ wsX40 ++ wsX20 ++ wsX10)
def wsX4_ask_r1 : List Cond := [Cond.classLink RX4 86 "java/lang/IllegalArgumentException", Cond.initialized "java/lang/IllegalArgumentException", Cond.classLink RX4 73 "java/lang/IllegalStateException", Cond.initialized "java/lang/IllegalStateException", Cond.fieldLink RX4 36 "TrunkYards" "board" "LTrunkYards$Switchboard;", Cond.fieldLink RX4 29 "TrunkYards" "ledger" "LTrunkYards$Ledger;", Cond.methodLink RX4 151 yX4_requireCall, Cond.instanceMethod yX4_requireCall, Cond.selects RX4 yX4_requireCall yX4_requireCall, Cond.initialized RX4, Cond.code yX4_requireCall cX4_requireCall 2 none, Cond.classLink RX4 261 "java/lang/IndexOutOfBoundsException", Cond.initialized "java/lang/IndexOutOfBoundsException", Cond.methodLink RX4 313 yX3_hasBegun, Cond.instanceMethod yX3_hasBegun, Cond.selects RX3 yX3_hasBegun yX3_hasBegun, Cond.initialized RX3, Cond.code yX3_hasBegun cX3_hasBegun 2 (some .boolean), Cond.fieldLink RX3 42 "TrunkYards$Switchboard" "begun" "I", Cond.methodLink RX4 110 yX4_isGrain, Cond.static yX4_isGrain, Cond.code yX4_isGrain cX4_isGrain 1 (some .boolean), Cond.methodLink RX4 156 yX4_requireOngoing, Cond.instanceMethod yX4_requireOngoing]
def wsX4_ask_r2 : List Cond := [Cond.selects RX4 yX4_requireOngoing yX4_requireOngoing, Cond.code yX4_requireOngoing cX4_requireOngoing 2 none, Cond.methodLink RX4 318 yX3_goesOn, Cond.instanceMethod yX3_goesOn, Cond.selects RX3 yX3_goesOn yX3_goesOn, Cond.code yX3_goesOn cX3_goesOn 2 (some .boolean), Cond.fieldLink RX3 27 "TrunkYards$Switchboard" "ongoingCalls" "[I", Cond.fieldLink RX3 9 "TrunkYards$Switchboard" "customers" "[I", Cond.methodLink RX4 159 yX3_openBooking, Cond.instanceMethod yX3_openBooking, Cond.selects RX3 yX3_openBooking yX3_openBooking, Cond.code yX3_openBooking cX3_openBooking 2 (some .int), Cond.fieldLink RX3 18 "TrunkYards$Switchboard" "openBookings" "[I", Cond.methodLink RX4 162 yX1_isFull, Cond.instanceMethod yX1_isFull, Cond.selects RX1 yX1_isFull yX1_isFull, Cond.initialized RX1, Cond.code yX1_isFull cX1_isFull 1 (some .boolean), Cond.fieldLink RX1 42 "TrunkYards$Ledger" "count" "I", Cond.methodLink RX4 163 yX1_grain, Cond.instanceMethod yX1_grain, Cond.selects RX1 yX1_grain yX1_grain, Cond.code yX1_grain cX1_grain 2 (some .int), Cond.fieldLink RX1 18 "TrunkYards$Ledger" "grains" "[I"]
def wsX4_ask_r3 : List Cond := [Cond.methodLink RX4 168 yX3_yard, Cond.instanceMethod yX3_yard, Cond.selects RX3 yX3_yard yX3_yard, Cond.code yX3_yard cX3_yard 2 (some .int), Cond.fieldLink RX3 15 "TrunkYards$Switchboard" "yards" "[I", Cond.methodLink RX4 171 yX4_findWagon, Cond.instanceMethod yX4_findWagon, Cond.selects RX4 yX4_findWagon yX4_findWagon, Cond.code yX4_findWagon cX4_findWagon 8 (some .int), Cond.fieldLink RX4 12 "TrunkYards" "rows" "LTrunkYards$Rows;", Cond.methodLink RX4 61 yX4_rowOf, Cond.static yX4_rowOf, Cond.code yX4_rowOf cX4_rowOf 2 (some .int), Cond.methodLink RX4 91 yX2_count, Cond.instanceMethod yX2_count, Cond.selects RX2 yX2_count yX2_count, Cond.initialized RX2, Cond.code yX2_count cX2_count 2 (some .int), Cond.fieldLink RX2 9 "TrunkYards$Rows" "counts" "[I", Cond.methodLink RX4 107 yX2_get, Cond.instanceMethod yX2_get, Cond.selects RX2 yX2_get yX2_get, Cond.code yX2_get cX2_get 3 (some .int), Cond.fieldLink RX2 15 "TrunkYards$Rows" "standing" "[I"]
def wsX4_ask_r4 : List Cond := [Cond.methodLink RX4 130 yX1_bookingFor, Cond.instanceMethod yX1_bookingFor, Cond.selects RX1 yX1_bookingFor yX1_bookingFor, Cond.code yX1_bookingFor cX1_bookingFor 2 (some .int), Cond.fieldLink RX1 33 "TrunkYards$Ledger" "bookingOfWagon" "[I", Cond.methodLink RX4 333 yX4_fits, Cond.instanceMethod yX4_fits, Cond.selects RX4 yX4_fits yX4_fits, Cond.code yX4_fits cX4_fits 4 (some .boolean), Cond.fieldLink RX4 40 "TrunkYards" "lastGrain" "[I", Cond.fieldLink RX4 50 "TrunkYards" "mayFollow" "[Z", Cond.methodLink RX4 174 yX3_customer, Cond.instanceMethod yX3_customer, Cond.selects RX3 yX3_customer yX3_customer, Cond.code yX3_customer cX3_customer 2 (some .int), Cond.methodLink RX4 177 yX1_open, Cond.instanceMethod yX1_open, Cond.selects RX1 yX1_open yX1_open, Cond.code yX1_open cX1_open 5 (some .int), Cond.fieldLink RX1 9 "TrunkYards$Ledger" "customers" "[I", Cond.fieldLink RX1 15 "TrunkYards$Ledger" "yards" "[I", Cond.fieldLink RX1 21 "TrunkYards$Ledger" "standings" "[I", Cond.methodLink RX4 181 yX3_setOpenBooking, Cond.instanceMethod yX3_setOpenBooking]
def wsX4_ask_r5 : List Cond := [Cond.selects RX3 yX3_setOpenBooking yX3_setOpenBooking, Cond.code yX3_setOpenBooking cX3_setOpenBooking 3 none, Cond.methodLink RX4 184 yX1_add, Cond.instanceMethod yX1_add, Cond.selects RX1 yX1_add yX1_add, Cond.code yX1_add cX1_add 3 none, Cond.fieldLink RX1 30 "TrunkYards$Ledger" "booked" "[I", Cond.fieldLink RX1 27 "TrunkYards$Ledger" "sizes" "[I"]
def wsX4_ask : List Cond := .code yX4_ask cX4_ask 5 (some .int) :: ((wsX4_ask_r1 ++ (wsX4_ask_r2 ++ (wsX4_ask_r3 ++ (wsX4_ask_r4 ++ wsX4_ask_r5)))) ++ wsX40 ++ wsX30 ++ wsX10 ++ wsX20 ++ (vx_atS RX4 90 "java/lang/IllegalArgumentException" ["java/lang/RuntimeException", "java/lang/Exception"]).filter goodWord ++ (vx_atS RX4 77 "java/lang/IllegalStateException" ["java/lang/RuntimeException", "java/lang/Exception"]).filter goodWord ++ (vx_atS RX4 265 "java/lang/IndexOutOfBoundsException" ["java/lang/RuntimeException", "java/lang/Exception"]).filter goodWord)
def wsX4_confirm_r1 : List Cond := [Cond.classLink RX4 73 "java/lang/IllegalStateException", Cond.initialized "java/lang/IllegalStateException", Cond.fieldLink RX4 36 "TrunkYards" "board" "LTrunkYards$Switchboard;", Cond.fieldLink RX4 29 "TrunkYards" "ledger" "LTrunkYards$Ledger;", Cond.methodLink RX4 151 yX4_requireCall, Cond.instanceMethod yX4_requireCall, Cond.selects RX4 yX4_requireCall yX4_requireCall, Cond.initialized RX4, Cond.code yX4_requireCall cX4_requireCall 2 none, Cond.classLink RX4 261 "java/lang/IndexOutOfBoundsException", Cond.initialized "java/lang/IndexOutOfBoundsException", Cond.methodLink RX4 313 yX3_hasBegun, Cond.instanceMethod yX3_hasBegun, Cond.selects RX3 yX3_hasBegun yX3_hasBegun, Cond.initialized RX3, Cond.code yX3_hasBegun cX3_hasBegun 2 (some .boolean), Cond.fieldLink RX3 42 "TrunkYards$Switchboard" "begun" "I", Cond.methodLink RX4 156 yX4_requireOngoing, Cond.instanceMethod yX4_requireOngoing, Cond.selects RX4 yX4_requireOngoing yX4_requireOngoing, Cond.code yX4_requireOngoing cX4_requireOngoing 2 none, Cond.methodLink RX4 318 yX3_goesOn, Cond.instanceMethod yX3_goesOn, Cond.selects RX3 yX3_goesOn yX3_goesOn]
def wsX4_confirm_r2 : List Cond := [Cond.code yX3_goesOn cX3_goesOn 2 (some .boolean), Cond.fieldLink RX3 27 "TrunkYards$Switchboard" "ongoingCalls" "[I", Cond.fieldLink RX3 9 "TrunkYards$Switchboard" "customers" "[I", Cond.methodLink RX4 159 yX3_openBooking, Cond.instanceMethod yX3_openBooking, Cond.selects RX3 yX3_openBooking yX3_openBooking, Cond.code yX3_openBooking cX3_openBooking 2 (some .int), Cond.fieldLink RX3 18 "TrunkYards$Switchboard" "openBookings" "[I", Cond.methodLink RX4 189 yX1_keep, Cond.instanceMethod yX1_keep, Cond.selects RX1 yX1_keep yX1_keep, Cond.initialized RX1, Cond.code yX1_keep cX1_keep 3 none, Cond.fieldLink RX1 21 "TrunkYards$Ledger" "standings" "[I", Cond.methodLink RX4 181 yX3_setOpenBooking, Cond.instanceMethod yX3_setOpenBooking, Cond.selects RX3 yX3_setOpenBooking yX3_setOpenBooking, Cond.code yX3_setOpenBooking cX3_setOpenBooking 3 none]
def wsX4_confirm : List Cond := .code yX4_confirm cX4_confirm 3 (some .int) :: ((wsX4_confirm_r1 ++ wsX4_confirm_r2) ++ wsX40 ++ wsX30 ++ wsX10 ++ (vx_atS RX4 77 "java/lang/IllegalStateException" ["java/lang/RuntimeException", "java/lang/Exception"]).filter goodWord ++ (vx_atS RX4 265 "java/lang/IndexOutOfBoundsException" ["java/lang/RuntimeException", "java/lang/Exception"]).filter goodWord)
def wsX4_requireBooking : List Cond := .code yX4_requireBooking cX4_requireBooking 2 none :: ([.classLink RX4 261 "java/lang/IndexOutOfBoundsException", .initialized "java/lang/IndexOutOfBoundsException", .fieldLink RX4 29 "TrunkYards" "ledger" "LTrunkYards$Ledger;", .methodLink RX4 254 yX1_opened, .instanceMethod yX1_opened, .selects RX1 yX1_opened yX1_opened, .initialized RX1, .code yX1_opened cX1_opened 1 (some .int), .fieldLink RX1 42 "TrunkYards$Ledger" "count" "I"] ++ wsX40 ++ wsX10 ++ (vx_atS RX4 265 "java/lang/IndexOutOfBoundsException" ["java/lang/RuntimeException", "java/lang/Exception"]).filter goodWord)
def wsX4_isWithin_r1 : List Cond := [Cond.fieldLink RX4 29 "TrunkYards" "ledger" "LTrunkYards$Ledger;", Cond.fieldLink RX4 36 "TrunkYards" "board" "LTrunkYards$Switchboard;", Cond.methodLink RX4 258 yX1_standing, Cond.instanceMethod yX1_standing, Cond.selects RX1 yX1_standing yX1_standing, Cond.initialized RX1, Cond.code yX1_standing cX1_standing 2 (some .int), Cond.fieldLink RX1 21 "TrunkYards$Ledger" "standings" "[I", Cond.methodLink RX4 336 yX1_customer, Cond.instanceMethod yX1_customer, Cond.selects RX1 yX1_customer yX1_customer, Cond.code yX1_customer cX1_customer 2 (some .int), Cond.fieldLink RX1 9 "TrunkYards$Ledger" "customers" "[I", Cond.methodLink RX4 174 yX3_customer, Cond.instanceMethod yX3_customer, Cond.selects RX3 yX3_customer yX3_customer, Cond.initialized RX3, Cond.code yX3_customer cX3_customer 2 (some .int), Cond.fieldLink RX3 9 "TrunkYards$Switchboard" "customers" "[I", Cond.methodLink RX4 337 yX1_yard, Cond.instanceMethod yX1_yard, Cond.selects RX1 yX1_yard yX1_yard, Cond.code yX1_yard cX1_yard 2 (some .int), Cond.fieldLink RX1 15 "TrunkYards$Ledger" "yards" "[I"]
def wsX4_isWithin_r2 : List Cond := [Cond.methodLink RX4 168 yX3_yard, Cond.instanceMethod yX3_yard, Cond.selects RX3 yX3_yard yX3_yard, Cond.code yX3_yard cX3_yard 2 (some .int), Cond.fieldLink RX3 15 "TrunkYards$Switchboard" "yards" "[I"]
def wsX4_isWithin : List Cond := .code yX4_isWithin cX4_isWithin 4 (some .boolean) :: ((wsX4_isWithin_r1 ++ wsX4_isWithin_r2) ++ wsX40 ++ wsX10 ++ wsX30)
def wsX4_resume_r1 : List Cond := [Cond.classLink RX4 73 "java/lang/IllegalStateException", Cond.initialized "java/lang/IllegalStateException", Cond.fieldLink RX4 36 "TrunkYards" "board" "LTrunkYards$Switchboard;", Cond.fieldLink RX4 29 "TrunkYards" "ledger" "LTrunkYards$Ledger;", Cond.methodLink RX4 151 yX4_requireCall, Cond.instanceMethod yX4_requireCall, Cond.selects RX4 yX4_requireCall yX4_requireCall, Cond.initialized RX4, Cond.code yX4_requireCall cX4_requireCall 2 none, Cond.classLink RX4 261 "java/lang/IndexOutOfBoundsException", Cond.initialized "java/lang/IndexOutOfBoundsException", Cond.methodLink RX4 313 yX3_hasBegun, Cond.instanceMethod yX3_hasBegun, Cond.selects RX3 yX3_hasBegun yX3_hasBegun, Cond.initialized RX3, Cond.code yX3_hasBegun cX3_hasBegun 2 (some .boolean), Cond.fieldLink RX3 42 "TrunkYards$Switchboard" "begun" "I", Cond.methodLink RX4 192 yX4_requireBooking, Cond.instanceMethod yX4_requireBooking, Cond.selects RX4 yX4_requireBooking yX4_requireBooking, Cond.code yX4_requireBooking cX4_requireBooking 2 none, Cond.methodLink RX4 254 yX1_opened, Cond.instanceMethod yX1_opened, Cond.selects RX1 yX1_opened yX1_opened]
def wsX4_resume_r2 : List Cond := [Cond.initialized RX1, Cond.code yX1_opened cX1_opened 1 (some .int), Cond.fieldLink RX1 42 "TrunkYards$Ledger" "count" "I", Cond.methodLink RX4 156 yX4_requireOngoing, Cond.instanceMethod yX4_requireOngoing, Cond.selects RX4 yX4_requireOngoing yX4_requireOngoing, Cond.code yX4_requireOngoing cX4_requireOngoing 2 none, Cond.methodLink RX4 318 yX3_goesOn, Cond.instanceMethod yX3_goesOn, Cond.selects RX3 yX3_goesOn yX3_goesOn, Cond.code yX3_goesOn cX3_goesOn 2 (some .boolean), Cond.fieldLink RX3 27 "TrunkYards$Switchboard" "ongoingCalls" "[I", Cond.fieldLink RX3 9 "TrunkYards$Switchboard" "customers" "[I", Cond.methodLink RX4 159 yX3_openBooking, Cond.instanceMethod yX3_openBooking, Cond.selects RX3 yX3_openBooking yX3_openBooking, Cond.code yX3_openBooking cX3_openBooking 2 (some .int), Cond.fieldLink RX3 18 "TrunkYards$Switchboard" "openBookings" "[I", Cond.methodLink RX4 195 yX4_isWithin, Cond.instanceMethod yX4_isWithin, Cond.selects RX4 yX4_isWithin yX4_isWithin, Cond.code yX4_isWithin cX4_isWithin 4 (some .boolean), Cond.methodLink RX4 258 yX1_standing, Cond.instanceMethod yX1_standing]
def wsX4_resume_r3 : List Cond := [Cond.selects RX1 yX1_standing yX1_standing, Cond.code yX1_standing cX1_standing 2 (some .int), Cond.fieldLink RX1 21 "TrunkYards$Ledger" "standings" "[I", Cond.methodLink RX4 336 yX1_customer, Cond.instanceMethod yX1_customer, Cond.selects RX1 yX1_customer yX1_customer, Cond.code yX1_customer cX1_customer 2 (some .int), Cond.fieldLink RX1 9 "TrunkYards$Ledger" "customers" "[I", Cond.methodLink RX4 174 yX3_customer, Cond.instanceMethod yX3_customer, Cond.selects RX3 yX3_customer yX3_customer, Cond.code yX3_customer cX3_customer 2 (some .int), Cond.methodLink RX4 337 yX1_yard, Cond.instanceMethod yX1_yard, Cond.selects RX1 yX1_yard yX1_yard, Cond.code yX1_yard cX1_yard 2 (some .int), Cond.fieldLink RX1 15 "TrunkYards$Ledger" "yards" "[I", Cond.methodLink RX4 168 yX3_yard, Cond.instanceMethod yX3_yard, Cond.selects RX3 yX3_yard yX3_yard, Cond.code yX3_yard cX3_yard 2 (some .int), Cond.fieldLink RX3 15 "TrunkYards$Switchboard" "yards" "[I", Cond.methodLink RX4 189 yX1_keep, Cond.instanceMethod yX1_keep]
def wsX4_resume_r4 : List Cond := [Cond.selects RX1 yX1_keep yX1_keep, Cond.code yX1_keep cX1_keep 3 none, Cond.methodLink RX4 181 yX3_setOpenBooking, Cond.instanceMethod yX3_setOpenBooking, Cond.selects RX3 yX3_setOpenBooking yX3_setOpenBooking, Cond.code yX3_setOpenBooking cX3_setOpenBooking 3 none, Cond.methodLink RX4 201 yX1_size, Cond.instanceMethod yX1_size, Cond.selects RX1 yX1_size yX1_size, Cond.code yX1_size cX1_size 2 (some .int), Cond.fieldLink RX1 27 "TrunkYards$Ledger" "sizes" "[I"]
def wsX4_resume : List Cond := .code yX4_resume cX4_resume 3 (some .int) :: ((wsX4_resume_r1 ++ (wsX4_resume_r2 ++ (wsX4_resume_r3 ++ wsX4_resume_r4))) ++ wsX40 ++ wsX30 ++ wsX10 ++ (vx_atS RX4 77 "java/lang/IllegalStateException" ["java/lang/RuntimeException", "java/lang/Exception"]).filter goodWord ++ (vx_atS RX4 265 "java/lang/IndexOutOfBoundsException" ["java/lang/RuntimeException", "java/lang/Exception"]).filter goodWord)
def wsX4_cancel_r1 : List Cond := [Cond.classLink RX4 73 "java/lang/IllegalStateException", Cond.initialized "java/lang/IllegalStateException", Cond.fieldLink RX4 29 "TrunkYards" "ledger" "LTrunkYards$Ledger;", Cond.methodLink RX4 151 yX4_requireCall, Cond.instanceMethod yX4_requireCall, Cond.selects RX4 yX4_requireCall yX4_requireCall, Cond.initialized RX4, Cond.code yX4_requireCall cX4_requireCall 2 none, Cond.classLink RX4 261 "java/lang/IndexOutOfBoundsException", Cond.initialized "java/lang/IndexOutOfBoundsException", Cond.fieldLink RX4 36 "TrunkYards" "board" "LTrunkYards$Switchboard;", Cond.methodLink RX4 313 yX3_hasBegun, Cond.instanceMethod yX3_hasBegun, Cond.selects RX3 yX3_hasBegun yX3_hasBegun, Cond.initialized RX3, Cond.code yX3_hasBegun cX3_hasBegun 2 (some .boolean), Cond.fieldLink RX3 42 "TrunkYards$Switchboard" "begun" "I", Cond.methodLink RX4 192 yX4_requireBooking, Cond.instanceMethod yX4_requireBooking, Cond.selects RX4 yX4_requireBooking yX4_requireBooking, Cond.code yX4_requireBooking cX4_requireBooking 2 none, Cond.methodLink RX4 254 yX1_opened, Cond.instanceMethod yX1_opened, Cond.selects RX1 yX1_opened yX1_opened]
def wsX4_cancel_r2 : List Cond := [Cond.initialized RX1, Cond.code yX1_opened cX1_opened 1 (some .int), Cond.fieldLink RX1 42 "TrunkYards$Ledger" "count" "I", Cond.methodLink RX4 156 yX4_requireOngoing, Cond.instanceMethod yX4_requireOngoing, Cond.selects RX4 yX4_requireOngoing yX4_requireOngoing, Cond.code yX4_requireOngoing cX4_requireOngoing 2 none, Cond.methodLink RX4 318 yX3_goesOn, Cond.instanceMethod yX3_goesOn, Cond.selects RX3 yX3_goesOn yX3_goesOn, Cond.code yX3_goesOn cX3_goesOn 2 (some .boolean), Cond.fieldLink RX3 27 "TrunkYards$Switchboard" "ongoingCalls" "[I", Cond.fieldLink RX3 9 "TrunkYards$Switchboard" "customers" "[I", Cond.methodLink RX4 195 yX4_isWithin, Cond.instanceMethod yX4_isWithin, Cond.selects RX4 yX4_isWithin yX4_isWithin, Cond.code yX4_isWithin cX4_isWithin 4 (some .boolean), Cond.methodLink RX4 258 yX1_standing, Cond.instanceMethod yX1_standing, Cond.selects RX1 yX1_standing yX1_standing, Cond.code yX1_standing cX1_standing 2 (some .int), Cond.fieldLink RX1 21 "TrunkYards$Ledger" "standings" "[I", Cond.methodLink RX4 336 yX1_customer, Cond.instanceMethod yX1_customer]
def wsX4_cancel_r3 : List Cond := [Cond.selects RX1 yX1_customer yX1_customer, Cond.code yX1_customer cX1_customer 2 (some .int), Cond.fieldLink RX1 9 "TrunkYards$Ledger" "customers" "[I", Cond.methodLink RX4 174 yX3_customer, Cond.instanceMethod yX3_customer, Cond.selects RX3 yX3_customer yX3_customer, Cond.code yX3_customer cX3_customer 2 (some .int), Cond.methodLink RX4 337 yX1_yard, Cond.instanceMethod yX1_yard, Cond.selects RX1 yX1_yard yX1_yard, Cond.code yX1_yard cX1_yard 2 (some .int), Cond.fieldLink RX1 15 "TrunkYards$Ledger" "yards" "[I", Cond.methodLink RX4 168 yX3_yard, Cond.instanceMethod yX3_yard, Cond.selects RX3 yX3_yard yX3_yard, Cond.code yX3_yard cX3_yard 2 (some .int), Cond.fieldLink RX3 15 "TrunkYards$Switchboard" "yards" "[I", Cond.methodLink RX4 206 yX1_release, Cond.instanceMethod yX1_release, Cond.selects RX1 yX1_release yX1_release, Cond.code yX1_release cX1_release 4 none, Cond.fieldLink RX1 27 "TrunkYards$Ledger" "sizes" "[I", Cond.fieldLink RX1 33 "TrunkYards$Ledger" "bookingOfWagon" "[I", Cond.methodLink RX1 46 yX1_get]
def wsX4_cancel_r4 : List Cond := [Cond.instanceMethod yX1_get, Cond.selects RX1 yX1_get yX1_get, Cond.code yX1_get cX1_get 3 (some .int), Cond.fieldLink RX1 30 "TrunkYards$Ledger" "booked" "[I", Cond.methodLink RX4 201 yX1_size, Cond.instanceMethod yX1_size, Cond.selects RX1 yX1_size yX1_size, Cond.code yX1_size cX1_size 2 (some .int)]
def wsX4_cancel : List Cond := .code yX4_cancel cX4_cancel 3 (some .int) :: ((wsX4_cancel_r1 ++ (wsX4_cancel_r2 ++ (wsX4_cancel_r3 ++ wsX4_cancel_r4))) ++ wsX40 ++ wsX30 ++ wsX10 ++ (vx_atS RX4 77 "java/lang/IllegalStateException" ["java/lang/RuntimeException", "java/lang/Exception"]).filter goodWord ++ (vx_atS RX4 265 "java/lang/IndexOutOfBoundsException" ["java/lang/RuntimeException", "java/lang/Exception"]).filter goodWord)
def wsX4_hangUp_r1 : List Cond := [Cond.fieldLink RX4 36 "TrunkYards" "board" "LTrunkYards$Switchboard;", Cond.fieldLink RX4 29 "TrunkYards" "ledger" "LTrunkYards$Ledger;", Cond.methodLink RX4 151 yX4_requireCall, Cond.instanceMethod yX4_requireCall, Cond.selects RX4 yX4_requireCall yX4_requireCall, Cond.initialized RX4, Cond.code yX4_requireCall cX4_requireCall 2 none, Cond.classLink RX4 261 "java/lang/IndexOutOfBoundsException", Cond.initialized "java/lang/IndexOutOfBoundsException", Cond.methodLink RX4 313 yX3_hasBegun, Cond.instanceMethod yX3_hasBegun, Cond.selects RX3 yX3_hasBegun yX3_hasBegun, Cond.initialized RX3, Cond.code yX3_hasBegun cX3_hasBegun 2 (some .boolean), Cond.fieldLink RX3 42 "TrunkYards$Switchboard" "begun" "I", Cond.methodLink RX4 156 yX4_requireOngoing, Cond.instanceMethod yX4_requireOngoing, Cond.selects RX4 yX4_requireOngoing yX4_requireOngoing, Cond.code yX4_requireOngoing cX4_requireOngoing 2 none, Cond.classLink RX4 73 "java/lang/IllegalStateException", Cond.initialized "java/lang/IllegalStateException", Cond.methodLink RX4 318 yX3_goesOn, Cond.instanceMethod yX3_goesOn, Cond.selects RX3 yX3_goesOn yX3_goesOn]
def wsX4_hangUp_r2 : List Cond := [Cond.code yX3_goesOn cX3_goesOn 2 (some .boolean), Cond.fieldLink RX3 27 "TrunkYards$Switchboard" "ongoingCalls" "[I", Cond.fieldLink RX3 9 "TrunkYards$Switchboard" "customers" "[I", Cond.methodLink RX4 159 yX3_openBooking, Cond.instanceMethod yX3_openBooking, Cond.selects RX3 yX3_openBooking yX3_openBooking, Cond.code yX3_openBooking cX3_openBooking 2 (some .int), Cond.fieldLink RX3 18 "TrunkYards$Switchboard" "openBookings" "[I", Cond.methodLink RX4 209 yX3_end, Cond.instanceMethod yX3_end, Cond.selects RX3 yX3_end yX3_end, Cond.code yX3_end cX3_end 2 none, Cond.fieldLink RX3 21 "TrunkYards$Switchboard" "firstTrunks" "[I", Cond.fieldLink RX3 24 "TrunkYards$Switchboard" "secondTrunks" "[I", Cond.methodLink RX3 58 yX3_occupy, Cond.instanceMethod yX3_occupy, Cond.selects RX3 yX3_occupy yX3_occupy, Cond.code yX3_occupy cX3_occupy 3 none, Cond.fieldLink RX3 30 "TrunkYards$Switchboard" "trunks" "[I", Cond.methodLink RX4 206 yX1_release, Cond.instanceMethod yX1_release, Cond.selects RX1 yX1_release yX1_release, Cond.initialized RX1, Cond.code yX1_release cX1_release 4 none]
def wsX4_hangUp_r3 : List Cond := [Cond.fieldLink RX1 21 "TrunkYards$Ledger" "standings" "[I", Cond.fieldLink RX1 27 "TrunkYards$Ledger" "sizes" "[I", Cond.fieldLink RX1 33 "TrunkYards$Ledger" "bookingOfWagon" "[I", Cond.methodLink RX1 46 yX1_get, Cond.instanceMethod yX1_get, Cond.selects RX1 yX1_get yX1_get, Cond.code yX1_get cX1_get 3 (some .int), Cond.fieldLink RX1 30 "TrunkYards$Ledger" "booked" "[I", Cond.methodLink RX4 201 yX1_size, Cond.instanceMethod yX1_size, Cond.selects RX1 yX1_size yX1_size, Cond.code yX1_size cX1_size 2 (some .int)]
def wsX4_hangUp : List Cond := .code yX4_hangUp cX4_hangUp 3 (some .int) :: ((wsX4_hangUp_r1 ++ (wsX4_hangUp_r2 ++ wsX4_hangUp_r3)) ++ wsX40 ++ wsX30 ++ wsX10 ++ (vx_atS RX4 265 "java/lang/IndexOutOfBoundsException" ["java/lang/RuntimeException", "java/lang/Exception"]).filter goodWord ++ (vx_atS RX4 77 "java/lang/IllegalStateException" ["java/lang/RuntimeException", "java/lang/Exception"]).filter goodWord)
def wsX4_callOf : List Cond := .code yX4_callOf cX4_callOf 2 (some .int) :: ([.fieldLink RX4 36 "TrunkYards" "board" "LTrunkYards$Switchboard;", .methodLink RX4 133 yX4_requireCustomer, .static yX4_requireCustomer, .initialized RX4, .code yX4_requireCustomer cX4_requireCustomer 1 none, .classLink RX4 86 "java/lang/IllegalArgumentException", .initialized "java/lang/IllegalArgumentException", .methodLink RX4 136 yX3_ongoing, .instanceMethod yX3_ongoing, .selects RX3 yX3_ongoing yX3_ongoing, .initialized RX3, .code yX3_ongoing cX3_ongoing 2 (some .int), .fieldLink RX3 27 "TrunkYards$Switchboard" "ongoingCalls" "[I"] ++ wsX40 ++ wsX30 ++ (vx_atS RX4 90 "java/lang/IllegalArgumentException" ["java/lang/RuntimeException", "java/lang/Exception"]).filter goodWord)
def wsX4_way_r1 : List Cond := [Cond.fieldLink RX4 36 "TrunkYards" "board" "LTrunkYards$Switchboard;", Cond.methodLink RX4 151 yX4_requireCall, Cond.instanceMethod yX4_requireCall, Cond.selects RX4 yX4_requireCall yX4_requireCall, Cond.initialized RX4, Cond.code yX4_requireCall cX4_requireCall 2 none, Cond.classLink RX4 261 "java/lang/IndexOutOfBoundsException", Cond.initialized "java/lang/IndexOutOfBoundsException", Cond.methodLink RX4 313 yX3_hasBegun, Cond.instanceMethod yX3_hasBegun, Cond.selects RX3 yX3_hasBegun yX3_hasBegun, Cond.initialized RX3, Cond.code yX3_hasBegun cX3_hasBegun 2 (some .boolean), Cond.fieldLink RX3 42 "TrunkYards$Switchboard" "begun" "I", Cond.methodLink RX4 156 yX4_requireOngoing, Cond.instanceMethod yX4_requireOngoing, Cond.selects RX4 yX4_requireOngoing yX4_requireOngoing, Cond.code yX4_requireOngoing cX4_requireOngoing 2 none, Cond.classLink RX4 73 "java/lang/IllegalStateException", Cond.initialized "java/lang/IllegalStateException", Cond.methodLink RX4 318 yX3_goesOn, Cond.instanceMethod yX3_goesOn, Cond.selects RX3 yX3_goesOn yX3_goesOn, Cond.code yX3_goesOn cX3_goesOn 2 (some .boolean)]
def wsX4_way_r2 : List Cond := [Cond.fieldLink RX3 27 "TrunkYards$Switchboard" "ongoingCalls" "[I", Cond.fieldLink RX3 9 "TrunkYards$Switchboard" "customers" "[I", Cond.methodLink RX4 212 yX3_trunksOf, Cond.instanceMethod yX3_trunksOf, Cond.selects RX3 yX3_trunksOf yX3_trunksOf, Cond.code yX3_trunksOf cX3_trunksOf 2 (some .int), Cond.fieldLink RX3 21 "TrunkYards$Switchboard" "firstTrunks" "[I", Cond.fieldLink RX3 24 "TrunkYards$Switchboard" "secondTrunks" "[I"]
def wsX4_way : List Cond := .code yX4_way cX4_way 2 (some .int) :: ((wsX4_way_r1 ++ wsX4_way_r2) ++ wsX40 ++ wsX30 ++ (vx_atS RX4 265 "java/lang/IndexOutOfBoundsException" ["java/lang/RuntimeException", "java/lang/Exception"]).filter goodWord ++ (vx_atS RX4 77 "java/lang/IllegalStateException" ["java/lang/RuntimeException", "java/lang/Exception"]).filter goodWord)
def wsX4_busy : List Cond := .code yX4_busy cX4_busy 1 (some .int) :: ([.fieldLink RX4 148 "TrunkYards" "busyCalls" "I"] ++ wsX40)
def wsX4_isExchange : List Cond := .code yX4_isExchange cX4_isExchange 1 (some .boolean) :: ([])
def wsX4_requireTrunk : List Cond := .code yX4_requireTrunk cX4_requireTrunk 3 none :: ([.classLink RX4 86 "java/lang/IllegalArgumentException", .initialized "java/lang/IllegalArgumentException", .methodLink RX4 306 yX4_isExchange, .static yX4_isExchange, .initialized RX4, .code yX4_isExchange cX4_isExchange 1 (some .boolean)] ++ (vx_atS RX4 90 "java/lang/IllegalArgumentException" ["java/lang/RuntimeException", "java/lang/Exception"]).filter goodWord)
def wsX4_cutOff_r1 : List Cond := [Cond.fieldLink RX4 36 "TrunkYards" "board" "LTrunkYards$Switchboard;", Cond.fieldLink RX4 29 "TrunkYards" "ledger" "LTrunkYards$Ledger;", Cond.fieldLink RX4 246 "TrunkYards" "now" "I", Cond.methodLink RX4 159 yX3_openBooking, Cond.instanceMethod yX3_openBooking, Cond.selects RX3 yX3_openBooking yX3_openBooking, Cond.initialized RX3, Cond.code yX3_openBooking cX3_openBooking 2 (some .int), Cond.fieldLink RX3 18 "TrunkYards$Switchboard" "openBookings" "[I", Cond.methodLink RX4 209 yX3_end, Cond.instanceMethod yX3_end, Cond.selects RX3 yX3_end yX3_end, Cond.code yX3_end cX3_end 2 none, Cond.fieldLink RX3 27 "TrunkYards$Switchboard" "ongoingCalls" "[I", Cond.fieldLink RX3 9 "TrunkYards$Switchboard" "customers" "[I", Cond.fieldLink RX3 21 "TrunkYards$Switchboard" "firstTrunks" "[I", Cond.fieldLink RX3 24 "TrunkYards$Switchboard" "secondTrunks" "[I", Cond.methodLink RX3 58 yX3_occupy, Cond.instanceMethod yX3_occupy, Cond.selects RX3 yX3_occupy yX3_occupy, Cond.code yX3_occupy cX3_occupy 3 none, Cond.fieldLink RX3 30 "TrunkYards$Switchboard" "trunks" "[I", Cond.methodLink RX4 338 yX1_halve, Cond.instanceMethod yX1_halve]
def wsX4_cutOff_r2 : List Cond := [Cond.selects RX1 yX1_halve yX1_halve, Cond.initialized RX1, Cond.code yX1_halve cX1_halve 3 none, Cond.fieldLink RX1 21 "TrunkYards$Ledger" "standings" "[I", Cond.fieldLink RX1 24 "TrunkYards$Ledger" "lapseTicks" "[I"]
def wsX4_cutOff : List Cond := .code yX4_cutOff cX4_cutOff 3 none :: ((wsX4_cutOff_r1 ++ wsX4_cutOff_r2) ++ wsX40 ++ wsX30 ++ wsX10)
def wsX4_cut_r1 : List Cond := [Cond.classLink RX4 73 "java/lang/IllegalStateException", Cond.initialized "java/lang/IllegalStateException", Cond.fieldLink RX4 36 "TrunkYards" "board" "LTrunkYards$Switchboard;", Cond.methodLink RX4 215 yX4_requireTrunk, Cond.static yX4_requireTrunk, Cond.initialized RX4, Cond.code yX4_requireTrunk cX4_requireTrunk 3 none, Cond.classLink RX4 86 "java/lang/IllegalArgumentException", Cond.initialized "java/lang/IllegalArgumentException", Cond.methodLink RX4 306 yX4_isExchange, Cond.static yX4_isExchange, Cond.code yX4_isExchange cX4_isExchange 1 (some .boolean), Cond.methodLink RX4 218 yX4_slotOf, Cond.static yX4_slotOf, Cond.code yX4_slotOf cX4_slotOf 3 (some .int), Cond.methodLink RX4 221 yX3_trunkHas, Cond.instanceMethod yX3_trunkHas, Cond.selects RX3 yX3_trunkHas yX3_trunkHas, Cond.initialized RX3, Cond.code yX3_trunkHas cX3_trunkHas 2 (some .int), Cond.fieldLink RX3 30 "TrunkYards$Switchboard" "trunks" "[I", Cond.methodLink RX4 226 yX4_cutOff, Cond.instanceMethod yX4_cutOff, Cond.selects RX4 yX4_cutOff yX4_cutOff]
def wsX4_cut_r2 : List Cond := [Cond.code yX4_cutOff cX4_cutOff 3 none, Cond.fieldLink RX4 29 "TrunkYards" "ledger" "LTrunkYards$Ledger;", Cond.fieldLink RX4 246 "TrunkYards" "now" "I", Cond.methodLink RX4 159 yX3_openBooking, Cond.instanceMethod yX3_openBooking, Cond.selects RX3 yX3_openBooking yX3_openBooking, Cond.code yX3_openBooking cX3_openBooking 2 (some .int), Cond.fieldLink RX3 18 "TrunkYards$Switchboard" "openBookings" "[I", Cond.methodLink RX4 209 yX3_end, Cond.instanceMethod yX3_end, Cond.selects RX3 yX3_end yX3_end, Cond.code yX3_end cX3_end 2 none, Cond.fieldLink RX3 27 "TrunkYards$Switchboard" "ongoingCalls" "[I", Cond.fieldLink RX3 9 "TrunkYards$Switchboard" "customers" "[I", Cond.fieldLink RX3 21 "TrunkYards$Switchboard" "firstTrunks" "[I", Cond.fieldLink RX3 24 "TrunkYards$Switchboard" "secondTrunks" "[I", Cond.methodLink RX3 58 yX3_occupy, Cond.instanceMethod yX3_occupy, Cond.selects RX3 yX3_occupy yX3_occupy, Cond.code yX3_occupy cX3_occupy 3 none, Cond.methodLink RX4 338 yX1_halve, Cond.instanceMethod yX1_halve, Cond.selects RX1 yX1_halve yX1_halve, Cond.initialized RX1]
def wsX4_cut_r3 : List Cond := [Cond.code yX1_halve cX1_halve 3 none, Cond.fieldLink RX1 21 "TrunkYards$Ledger" "standings" "[I", Cond.fieldLink RX1 24 "TrunkYards$Ledger" "lapseTicks" "[I", Cond.methodLink RX4 229 yX3_setTrunk, Cond.instanceMethod yX3_setTrunk, Cond.selects RX3 yX3_setTrunk yX3_setTrunk, Cond.code yX3_setTrunk cX3_setTrunk 3 none]
def wsX4_cut : List Cond := .code yX4_cut cX4_cut 6 (some .int) :: ((wsX4_cut_r1 ++ (wsX4_cut_r2 ++ wsX4_cut_r3)) ++ wsX40 ++ wsX30 ++ wsX10 ++ (vx_atS RX4 77 "java/lang/IllegalStateException" ["java/lang/RuntimeException", "java/lang/Exception"]).filter goodWord ++ (vx_atS RX4 90 "java/lang/IllegalArgumentException" ["java/lang/RuntimeException", "java/lang/Exception"]).filter goodWord)
def wsX4_mend_r1 : List Cond := [Cond.classLink RX4 73 "java/lang/IllegalStateException", Cond.initialized "java/lang/IllegalStateException", Cond.fieldLink RX4 36 "TrunkYards" "board" "LTrunkYards$Switchboard;", Cond.methodLink RX4 215 yX4_requireTrunk, Cond.static yX4_requireTrunk, Cond.initialized RX4, Cond.code yX4_requireTrunk cX4_requireTrunk 3 none, Cond.classLink RX4 86 "java/lang/IllegalArgumentException", Cond.initialized "java/lang/IllegalArgumentException", Cond.methodLink RX4 306 yX4_isExchange, Cond.static yX4_isExchange, Cond.code yX4_isExchange cX4_isExchange 1 (some .boolean), Cond.methodLink RX4 218 yX4_slotOf, Cond.static yX4_slotOf, Cond.code yX4_slotOf cX4_slotOf 3 (some .int), Cond.methodLink RX4 221 yX3_trunkHas, Cond.instanceMethod yX3_trunkHas, Cond.selects RX3 yX3_trunkHas yX3_trunkHas, Cond.initialized RX3, Cond.code yX3_trunkHas cX3_trunkHas 2 (some .int), Cond.fieldLink RX3 30 "TrunkYards$Switchboard" "trunks" "[I", Cond.methodLink RX4 229 yX3_setTrunk, Cond.instanceMethod yX3_setTrunk, Cond.selects RX3 yX3_setTrunk yX3_setTrunk]
def wsX4_mend_r2 : List Cond := [Cond.code yX3_setTrunk cX3_setTrunk 3 none]
def wsX4_mend : List Cond := .code yX4_mend cX4_mend 5 none :: ((wsX4_mend_r1 ++ wsX4_mend_r2) ++ wsX40 ++ wsX30 ++ (vx_atS RX4 77 "java/lang/IllegalStateException" ["java/lang/RuntimeException", "java/lang/Exception"]).filter goodWord ++ (vx_atS RX4 90 "java/lang/IllegalArgumentException" ["java/lang/RuntimeException", "java/lang/Exception"]).filter goodWord)
def wsX4_trunk : List Cond := .code yX4_trunk cX4_trunk 4 (some .int) :: ([.fieldLink RX4 36 "TrunkYards" "board" "LTrunkYards$Switchboard;", .methodLink RX4 215 yX4_requireTrunk, .static yX4_requireTrunk, .initialized RX4, .code yX4_requireTrunk cX4_requireTrunk 3 none, .classLink RX4 86 "java/lang/IllegalArgumentException", .initialized "java/lang/IllegalArgumentException", .methodLink RX4 306 yX4_isExchange, .static yX4_isExchange, .code yX4_isExchange cX4_isExchange 1 (some .boolean), .methodLink RX4 218 yX4_slotOf, .static yX4_slotOf, .code yX4_slotOf cX4_slotOf 3 (some .int), .methodLink RX4 221 yX3_trunkHas, .instanceMethod yX3_trunkHas, .selects RX3 yX3_trunkHas yX3_trunkHas, .initialized RX3, .code yX3_trunkHas cX3_trunkHas 2 (some .int), .fieldLink RX3 30 "TrunkYards$Switchboard" "trunks" "[I"] ++ wsX40 ++ wsX30 ++ (vx_atS RX4 90 "java/lang/IllegalArgumentException" ["java/lang/RuntimeException", "java/lang/Exception"]).filter goodWord)
def wsX4_setLines : List Cond := .code yX4_setLines cX4_setLines 3 (some .int) :: ([.classLink RX4 86 "java/lang/IllegalArgumentException", .initialized "java/lang/IllegalArgumentException", .classLink RX4 73 "java/lang/IllegalStateException", .initialized "java/lang/IllegalStateException", .fieldLink RX4 36 "TrunkYards" "board" "LTrunkYards$Switchboard;", .methodLink RX4 101 yX4_requireYard, .static yX4_requireYard, .initialized RX4, .code yX4_requireYard cX4_requireYard 1 none, .methodLink RX4 297 yX4_isYard, .static yX4_isYard, .code yX4_isYard cX4_isYard 1 (some .boolean), .methodLink RX4 236 yX3_callsTo, .instanceMethod yX3_callsTo, .selects RX3 yX3_callsTo yX3_callsTo, .initialized RX3, .code yX3_callsTo cX3_callsTo 5 (some .int), .fieldLink RX3 27 "TrunkYards$Switchboard" "ongoingCalls" "[I", .fieldLink RX3 15 "TrunkYards$Switchboard" "yards" "[I", .methodLink RX4 241 yX3_changeLines, .instanceMethod yX3_changeLines, .selects RX3 yX3_changeLines yX3_changeLines, .code yX3_changeLines cX3_changeLines 4 (some .int), .fieldLink RX3 33 "TrunkYards$Switchboard" "lineCounts" "[I"] ++ wsX40 ++ wsX30 ++ (vx_atS RX4 90 "java/lang/IllegalArgumentException" ["java/lang/RuntimeException", "java/lang/Exception"]).filter goodWord ++ (vx_atS RX4 77 "java/lang/IllegalStateException" ["java/lang/RuntimeException", "java/lang/Exception"]).filter goodWord)
def wsX4_pass_r1 : List Cond := [Cond.classLink RX4 86 "java/lang/IllegalArgumentException", Cond.initialized "java/lang/IllegalArgumentException", Cond.classLink RX4 73 "java/lang/IllegalStateException", Cond.initialized "java/lang/IllegalStateException", Cond.fieldLink RX4 246 "TrunkYards" "now" "I", Cond.fieldLink RX4 29 "TrunkYards" "ledger" "LTrunkYards$Ledger;", Cond.methodLink RX4 251 yX1_lapseAll, Cond.instanceMethod yX1_lapseAll, Cond.selects RX1 yX1_lapseAll yX1_lapseAll, Cond.initialized RX1, Cond.code yX1_lapseAll cX1_lapseAll 4 (some .int), Cond.fieldLink RX1 42 "TrunkYards$Ledger" "count" "I", Cond.fieldLink RX1 21 "TrunkYards$Ledger" "standings" "[I", Cond.fieldLink RX1 24 "TrunkYards$Ledger" "lapseTicks" "[I", Cond.methodLink RX1 50 yX1_release, Cond.instanceMethod yX1_release, Cond.selects RX1 yX1_release yX1_release, Cond.code yX1_release cX1_release 4 none, Cond.fieldLink RX1 27 "TrunkYards$Ledger" "sizes" "[I", Cond.fieldLink RX1 33 "TrunkYards$Ledger" "bookingOfWagon" "[I", Cond.methodLink RX1 46 yX1_get, Cond.instanceMethod yX1_get, Cond.selects RX1 yX1_get yX1_get, Cond.code yX1_get cX1_get 3 (some .int)]
def wsX4_pass_r2 : List Cond := [Cond.fieldLink RX1 30 "TrunkYards$Ledger" "booked" "[I"]
def wsX4_pass : List Cond := .code yX4_pass cX4_pass 2 (some .int) :: ((wsX4_pass_r1 ++ wsX4_pass_r2) ++ wsX40 ++ wsX10 ++ (vx_atS RX4 90 "java/lang/IllegalArgumentException" ["java/lang/RuntimeException", "java/lang/Exception"]).filter goodWord ++ (vx_atS RX4 77 "java/lang/IllegalStateException" ["java/lang/RuntimeException", "java/lang/Exception"]).filter goodWord)
def wsX4_bookings : List Cond := .code yX4_bookings cX4_bookings 1 (some .int) :: ([.fieldLink RX4 29 "TrunkYards" "ledger" "LTrunkYards$Ledger;", .methodLink RX4 254 yX1_opened, .instanceMethod yX1_opened, .selects RX1 yX1_opened yX1_opened, .initialized RX1, .code yX1_opened cX1_opened 1 (some .int), .fieldLink RX1 42 "TrunkYards$Ledger" "count" "I"] ++ wsX40 ++ wsX10)
def wsX4_state : List Cond := .code yX4_state cX4_state 2 (some .int) :: ([.fieldLink RX4 29 "TrunkYards" "ledger" "LTrunkYards$Ledger;", .methodLink RX4 192 yX4_requireBooking, .instanceMethod yX4_requireBooking, .selects RX4 yX4_requireBooking yX4_requireBooking, .initialized RX4, .code yX4_requireBooking cX4_requireBooking 2 none, .classLink RX4 261 "java/lang/IndexOutOfBoundsException", .initialized "java/lang/IndexOutOfBoundsException", .methodLink RX4 254 yX1_opened, .instanceMethod yX1_opened, .selects RX1 yX1_opened yX1_opened, .initialized RX1, .code yX1_opened cX1_opened 1 (some .int), .fieldLink RX1 42 "TrunkYards$Ledger" "count" "I", .methodLink RX4 258 yX1_standing, .instanceMethod yX1_standing, .selects RX1 yX1_standing yX1_standing, .code yX1_standing cX1_standing 2 (some .int), .fieldLink RX1 21 "TrunkYards$Ledger" "standings" "[I"] ++ wsX40 ++ wsX10 ++ (vx_atS RX4 265 "java/lang/IndexOutOfBoundsException" ["java/lang/RuntimeException", "java/lang/Exception"]).filter goodWord)
def wsX4_wagons : List Cond := .code yX4_wagons cX4_wagons 2 (some .int) :: ([.fieldLink RX4 29 "TrunkYards" "ledger" "LTrunkYards$Ledger;", .methodLink RX4 192 yX4_requireBooking, .instanceMethod yX4_requireBooking, .selects RX4 yX4_requireBooking yX4_requireBooking, .initialized RX4, .code yX4_requireBooking cX4_requireBooking 2 none, .classLink RX4 261 "java/lang/IndexOutOfBoundsException", .initialized "java/lang/IndexOutOfBoundsException", .methodLink RX4 254 yX1_opened, .instanceMethod yX1_opened, .selects RX1 yX1_opened yX1_opened, .initialized RX1, .code yX1_opened cX1_opened 1 (some .int), .fieldLink RX1 42 "TrunkYards$Ledger" "count" "I", .methodLink RX4 201 yX1_size, .instanceMethod yX1_size, .selects RX1 yX1_size yX1_size, .code yX1_size cX1_size 2 (some .int), .fieldLink RX1 27 "TrunkYards$Ledger" "sizes" "[I"] ++ wsX40 ++ wsX10 ++ (vx_atS RX4 265 "java/lang/IndexOutOfBoundsException" ["java/lang/RuntimeException", "java/lang/Exception"]).filter goodWord)
def wsX4_wagonOf : List Cond := .code yX4_wagonOf cX4_wagonOf 3 (some .int) :: ([.classLink RX4 261 "java/lang/IndexOutOfBoundsException", .initialized "java/lang/IndexOutOfBoundsException", .fieldLink RX4 29 "TrunkYards" "ledger" "LTrunkYards$Ledger;", .methodLink RX4 192 yX4_requireBooking, .instanceMethod yX4_requireBooking, .selects RX4 yX4_requireBooking yX4_requireBooking, .initialized RX4, .code yX4_requireBooking cX4_requireBooking 2 none, .methodLink RX4 254 yX1_opened, .instanceMethod yX1_opened, .selects RX1 yX1_opened yX1_opened, .initialized RX1, .code yX1_opened cX1_opened 1 (some .int), .fieldLink RX1 42 "TrunkYards$Ledger" "count" "I", .methodLink RX4 201 yX1_size, .instanceMethod yX1_size, .selects RX1 yX1_size yX1_size, .code yX1_size cX1_size 2 (some .int), .fieldLink RX1 27 "TrunkYards$Ledger" "sizes" "[I", .methodLink RX4 266 yX1_get, .instanceMethod yX1_get, .selects RX1 yX1_get yX1_get, .code yX1_get cX1_get 3 (some .int), .fieldLink RX1 30 "TrunkYards$Ledger" "booked" "[I"] ++ wsX40 ++ wsX10 ++ (vx_atS RX4 265 "java/lang/IndexOutOfBoundsException" ["java/lang/RuntimeException", "java/lang/Exception"]).filter goodWord)
def wsX4_lapses_r1 : List Cond := [Cond.classLink RX4 73 "java/lang/IllegalStateException", Cond.initialized "java/lang/IllegalStateException", Cond.fieldLink RX4 29 "TrunkYards" "ledger" "LTrunkYards$Ledger;", Cond.fieldLink RX4 246 "TrunkYards" "now" "I", Cond.methodLink RX4 192 yX4_requireBooking, Cond.instanceMethod yX4_requireBooking, Cond.selects RX4 yX4_requireBooking yX4_requireBooking, Cond.initialized RX4, Cond.code yX4_requireBooking cX4_requireBooking 2 none, Cond.classLink RX4 261 "java/lang/IndexOutOfBoundsException", Cond.initialized "java/lang/IndexOutOfBoundsException", Cond.methodLink RX4 254 yX1_opened, Cond.instanceMethod yX1_opened, Cond.selects RX1 yX1_opened yX1_opened, Cond.initialized RX1, Cond.code yX1_opened cX1_opened 1 (some .int), Cond.fieldLink RX1 42 "TrunkYards$Ledger" "count" "I", Cond.methodLink RX4 258 yX1_standing, Cond.instanceMethod yX1_standing, Cond.selects RX1 yX1_standing yX1_standing, Cond.code yX1_standing cX1_standing 2 (some .int), Cond.fieldLink RX1 21 "TrunkYards$Ledger" "standings" "[I", Cond.methodLink RX4 269 yX1_lapseTick, Cond.instanceMethod yX1_lapseTick]
def wsX4_lapses_r2 : List Cond := [Cond.selects RX1 yX1_lapseTick yX1_lapseTick, Cond.code yX1_lapseTick cX1_lapseTick 2 (some .int), Cond.fieldLink RX1 24 "TrunkYards$Ledger" "lapseTicks" "[I"]
def wsX4_lapses : List Cond := .code yX4_lapses cX4_lapses 2 (some .int) :: ((wsX4_lapses_r1 ++ wsX4_lapses_r2) ++ wsX40 ++ wsX10 ++ (vx_atS RX4 77 "java/lang/IllegalStateException" ["java/lang/RuntimeException", "java/lang/Exception"]).filter goodWord ++ (vx_atS RX4 265 "java/lang/IndexOutOfBoundsException" ["java/lang/RuntimeException", "java/lang/Exception"]).filter goodWord)
def wsX4_standsWhole : List Cond := .code yX4_standsWhole cX4_standsWhole 5 (some .boolean) :: ([.fieldLink RX4 12 "TrunkYards" "rows" "LTrunkYards$Rows;", .fieldLink RX4 29 "TrunkYards" "ledger" "LTrunkYards$Ledger;", .methodLink RX4 91 yX2_count, .instanceMethod yX2_count, .selects RX2 yX2_count yX2_count, .initialized RX2, .code yX2_count cX2_count 2 (some .int), .fieldLink RX2 9 "TrunkYards$Rows" "counts" "[I", .methodLink RX4 107 yX2_get, .instanceMethod yX2_get, .selects RX2 yX2_get yX2_get, .code yX2_get cX2_get 3 (some .int), .fieldLink RX2 15 "TrunkYards$Rows" "standing" "[I", .methodLink RX4 130 yX1_bookingFor, .instanceMethod yX1_bookingFor, .selects RX1 yX1_bookingFor yX1_bookingFor, .initialized RX1, .code yX1_bookingFor cX1_bookingFor 2 (some .int), .fieldLink RX1 33 "TrunkYards$Ledger" "bookingOfWagon" "[I", .methodLink RX4 201 yX1_size, .instanceMethod yX1_size, .selects RX1 yX1_size yX1_size, .code yX1_size cX1_size 2 (some .int), .fieldLink RX1 27 "TrunkYards$Ledger" "sizes" "[I"] ++ wsX40 ++ wsX20 ++ wsX10)
def wsX4_canDepart_r1 : List Cond := [Cond.fieldLink RX4 12 "TrunkYards" "rows" "LTrunkYards$Rows;", Cond.fieldLink RX4 29 "TrunkYards" "ledger" "LTrunkYards$Ledger;", Cond.methodLink RX4 91 yX2_count, Cond.instanceMethod yX2_count, Cond.selects RX2 yX2_count yX2_count, Cond.initialized RX2, Cond.code yX2_count cX2_count 2 (some .int), Cond.fieldLink RX2 9 "TrunkYards$Rows" "counts" "[I", Cond.methodLink RX4 107 yX2_get, Cond.instanceMethod yX2_get, Cond.selects RX2 yX2_get yX2_get, Cond.code yX2_get cX2_get 3 (some .int), Cond.fieldLink RX2 15 "TrunkYards$Rows" "standing" "[I", Cond.methodLink RX4 130 yX1_bookingFor, Cond.instanceMethod yX1_bookingFor, Cond.selects RX1 yX1_bookingFor yX1_bookingFor, Cond.initialized RX1, Cond.code yX1_bookingFor cX1_bookingFor 2 (some .int), Cond.fieldLink RX1 33 "TrunkYards$Ledger" "bookingOfWagon" "[I", Cond.methodLink RX4 258 yX1_standing, Cond.instanceMethod yX1_standing, Cond.selects RX1 yX1_standing yX1_standing, Cond.code yX1_standing cX1_standing 2 (some .int), Cond.fieldLink RX1 21 "TrunkYards$Ledger" "standings" "[I"]
def wsX4_canDepart_r2 : List Cond := [Cond.methodLink RX4 341 yX4_standsWhole, Cond.instanceMethod yX4_standsWhole, Cond.selects RX4 yX4_standsWhole yX4_standsWhole, Cond.initialized RX4, Cond.code yX4_standsWhole cX4_standsWhole 5 (some .boolean), Cond.methodLink RX4 201 yX1_size, Cond.instanceMethod yX1_size, Cond.selects RX1 yX1_size yX1_size, Cond.code yX1_size cX1_size 2 (some .int), Cond.fieldLink RX1 27 "TrunkYards$Ledger" "sizes" "[I"]
def wsX4_canDepart : List Cond := .code yX4_canDepart cX4_canDepart 5 (some .boolean) :: ((wsX4_canDepart_r1 ++ wsX4_canDepart_r2) ++ wsX40 ++ wsX20 ++ wsX10)
def wsX4_load_r1 : List Cond := [Cond.fieldLink RX4 12 "TrunkYards" "rows" "LTrunkYards$Rows;", Cond.fieldLink RX4 29 "TrunkYards" "ledger" "LTrunkYards$Ledger;", Cond.fieldLink RX4 40 "TrunkYards" "lastGrain" "[I", Cond.methodLink RX4 91 yX2_count, Cond.instanceMethod yX2_count, Cond.selects RX2 yX2_count yX2_count, Cond.initialized RX2, Cond.code yX2_count cX2_count 2 (some .int), Cond.fieldLink RX2 9 "TrunkYards$Rows" "counts" "[I", Cond.methodLink RX4 107 yX2_get, Cond.instanceMethod yX2_get, Cond.selects RX2 yX2_get yX2_get, Cond.code yX2_get cX2_get 3 (some .int), Cond.fieldLink RX2 15 "TrunkYards$Rows" "standing" "[I", Cond.methodLink RX4 130 yX1_bookingFor, Cond.instanceMethod yX1_bookingFor, Cond.selects RX1 yX1_bookingFor yX1_bookingFor, Cond.initialized RX1, Cond.code yX1_bookingFor cX1_bookingFor 2 (some .int), Cond.fieldLink RX1 33 "TrunkYards$Ledger" "bookingOfWagon" "[I", Cond.methodLink RX4 163 yX1_grain, Cond.instanceMethod yX1_grain, Cond.selects RX1 yX1_grain yX1_grain, Cond.code yX1_grain cX1_grain 2 (some .int)]
def wsX4_load_r2 : List Cond := [Cond.fieldLink RX1 18 "TrunkYards$Ledger" "grains" "[I", Cond.methodLink RX4 189 yX1_keep, Cond.instanceMethod yX1_keep, Cond.selects RX1 yX1_keep yX1_keep, Cond.code yX1_keep cX1_keep 3 none, Cond.fieldLink RX1 21 "TrunkYards$Ledger" "standings" "[I"]
def wsX4_load : List Cond := .code yX4_load cX4_load 5 none :: ((wsX4_load_r1 ++ wsX4_load_r2) ++ wsX40 ++ wsX20 ++ wsX10)
def wsX4_depart_r1 : List Cond := [Cond.classLink RX4 86 "java/lang/IllegalArgumentException", Cond.initialized "java/lang/IllegalArgumentException", Cond.classLink RX4 73 "java/lang/IllegalStateException", Cond.initialized "java/lang/IllegalStateException", Cond.fieldLink RX4 274 "TrunkYards" "departed" "I", Cond.fieldLink RX4 54 "TrunkYards" "destination" "[I", Cond.fieldLink RX4 12 "TrunkYards" "rows" "LTrunkYards$Rows;", Cond.methodLink RX4 57 yX4_requireTrack, Cond.static yX4_requireTrack, Cond.initialized RX4, Cond.code yX4_requireTrack cX4_requireTrack 2 none, Cond.methodLink RX4 297 yX4_isYard, Cond.static yX4_isYard, Cond.code yX4_isYard cX4_isYard 1 (some .boolean), Cond.methodLink RX4 287 yX4_isTrack, Cond.static yX4_isTrack, Cond.code yX4_isTrack cX4_isTrack 1 (some .boolean), Cond.methodLink RX4 101 yX4_requireYard, Cond.static yX4_requireYard, Cond.code yX4_requireYard cX4_requireYard 1 none, Cond.methodLink RX4 61 yX4_rowOf, Cond.static yX4_rowOf, Cond.code yX4_rowOf cX4_rowOf 2 (some .int), Cond.methodLink RX4 277 yX4_canDepart]
def wsX4_depart_r2 : List Cond := [Cond.instanceMethod yX4_canDepart, Cond.selects RX4 yX4_canDepart yX4_canDepart, Cond.code yX4_canDepart cX4_canDepart 5 (some .boolean), Cond.fieldLink RX4 29 "TrunkYards" "ledger" "LTrunkYards$Ledger;", Cond.methodLink RX4 91 yX2_count, Cond.instanceMethod yX2_count, Cond.selects RX2 yX2_count yX2_count, Cond.initialized RX2, Cond.code yX2_count cX2_count 2 (some .int), Cond.fieldLink RX2 9 "TrunkYards$Rows" "counts" "[I", Cond.methodLink RX4 107 yX2_get, Cond.instanceMethod yX2_get, Cond.selects RX2 yX2_get yX2_get, Cond.code yX2_get cX2_get 3 (some .int), Cond.fieldLink RX2 15 "TrunkYards$Rows" "standing" "[I", Cond.methodLink RX4 130 yX1_bookingFor, Cond.instanceMethod yX1_bookingFor, Cond.selects RX1 yX1_bookingFor yX1_bookingFor, Cond.initialized RX1, Cond.code yX1_bookingFor cX1_bookingFor 2 (some .int), Cond.fieldLink RX1 33 "TrunkYards$Ledger" "bookingOfWagon" "[I", Cond.methodLink RX4 258 yX1_standing, Cond.instanceMethod yX1_standing, Cond.selects RX1 yX1_standing yX1_standing]
def wsX4_depart_r3 : List Cond := [Cond.code yX1_standing cX1_standing 2 (some .int), Cond.fieldLink RX1 21 "TrunkYards$Ledger" "standings" "[I", Cond.methodLink RX4 341 yX4_standsWhole, Cond.instanceMethod yX4_standsWhole, Cond.selects RX4 yX4_standsWhole yX4_standsWhole, Cond.code yX4_standsWhole cX4_standsWhole 5 (some .boolean), Cond.methodLink RX4 201 yX1_size, Cond.instanceMethod yX1_size, Cond.selects RX1 yX1_size yX1_size, Cond.code yX1_size cX1_size 2 (some .int), Cond.fieldLink RX1 27 "TrunkYards$Ledger" "sizes" "[I", Cond.methodLink RX4 282 yX4_load, Cond.instanceMethod yX4_load, Cond.selects RX4 yX4_load yX4_load, Cond.code yX4_load cX4_load 5 none, Cond.fieldLink RX4 40 "TrunkYards" "lastGrain" "[I", Cond.methodLink RX4 163 yX1_grain, Cond.instanceMethod yX1_grain, Cond.selects RX1 yX1_grain yX1_grain, Cond.code yX1_grain cX1_grain 2 (some .int), Cond.fieldLink RX1 18 "TrunkYards$Ledger" "grains" "[I", Cond.methodLink RX4 189 yX1_keep, Cond.instanceMethod yX1_keep, Cond.selects RX1 yX1_keep yX1_keep]
def wsX4_depart_r4 : List Cond := [Cond.code yX1_keep cX1_keep 3 none, Cond.methodLink RX4 97 yX4_moveLast, Cond.instanceMethod yX4_moveLast, Cond.selects RX4 yX4_moveLast yX4_moveLast, Cond.code yX4_moveLast cX4_moveLast 4 none, Cond.fieldLink RX4 22 "TrunkYards" "history" "LTrunkYards$History;", Cond.methodLink RX4 327 yX2_move, Cond.instanceMethod yX2_move, Cond.selects RX2 yX2_move yX2_move, Cond.code yX2_move cX2_move 7 none, Cond.methodLink RX4 330 yX0_noteMove, Cond.instanceMethod yX0_noteMove, Cond.selects RX0 yX0_noteMove yX0_noteMove, Cond.initialized RX0, Cond.code yX0_noteMove cX0_noteMove 4 none, Cond.fieldLink RX0 25 "TrunkYards$History" "noted" "I", Cond.fieldLink RX0 9 "TrunkYards$History" "from" "[I", Cond.fieldLink RX0 15 "TrunkYards$History" "to" "[I", Cond.fieldLink RX0 18 "TrunkYards$History" "many" "[I"]
def wsX4_depart : List Cond := .code yX4_depart cX4_depart 6 (some .int) :: ((wsX4_depart_r1 ++ (wsX4_depart_r2 ++ (wsX4_depart_r3 ++ wsX4_depart_r4))) ++ wsX40 ++ wsX20 ++ wsX10 ++ wsX00 ++ (vx_atS RX4 90 "java/lang/IllegalArgumentException" ["java/lang/RuntimeException", "java/lang/Exception"]).filter goodWord ++ (vx_atS RX4 77 "java/lang/IllegalStateException" ["java/lang/RuntimeException", "java/lang/Exception"]).filter goodWord)
def wsX4_unload_r1 : List Cond := [Cond.fieldLink RX4 12 "TrunkYards" "rows" "LTrunkYards$Rows;", Cond.fieldLink RX4 29 "TrunkYards" "ledger" "LTrunkYards$Ledger;", Cond.methodLink RX4 91 yX2_count, Cond.instanceMethod yX2_count, Cond.selects RX2 yX2_count yX2_count, Cond.initialized RX2, Cond.code yX2_count cX2_count 2 (some .int), Cond.fieldLink RX2 9 "TrunkYards$Rows" "counts" "[I", Cond.methodLink RX4 107 yX2_get, Cond.instanceMethod yX2_get, Cond.selects RX2 yX2_get yX2_get, Cond.code yX2_get cX2_get 3 (some .int), Cond.fieldLink RX2 15 "TrunkYards$Rows" "standing" "[I", Cond.methodLink RX4 130 yX1_bookingFor, Cond.instanceMethod yX1_bookingFor, Cond.selects RX1 yX1_bookingFor yX1_bookingFor, Cond.initialized RX1, Cond.code yX1_bookingFor cX1_bookingFor 2 (some .int), Cond.fieldLink RX1 33 "TrunkYards$Ledger" "bookingOfWagon" "[I", Cond.methodLink RX4 206 yX1_release, Cond.instanceMethod yX1_release, Cond.selects RX1 yX1_release yX1_release, Cond.code yX1_release cX1_release 4 none, Cond.fieldLink RX1 21 "TrunkYards$Ledger" "standings" "[I"]
def wsX4_unload_r2 : List Cond := [Cond.fieldLink RX1 27 "TrunkYards$Ledger" "sizes" "[I", Cond.methodLink RX1 46 yX1_get, Cond.instanceMethod yX1_get, Cond.selects RX1 yX1_get yX1_get, Cond.code yX1_get cX1_get 3 (some .int), Cond.fieldLink RX1 30 "TrunkYards$Ledger" "booked" "[I"]
def wsX4_unload : List Cond := .code yX4_unload cX4_unload 4 none :: ((wsX4_unload_r1 ++ wsX4_unload_r2) ++ wsX40 ++ wsX20 ++ wsX10)
def wsX4_arrive_r1 : List Cond := [Cond.classLink RX4 261 "java/lang/IndexOutOfBoundsException", Cond.initialized "java/lang/IndexOutOfBoundsException", Cond.classLink RX4 86 "java/lang/IllegalArgumentException", Cond.initialized "java/lang/IllegalArgumentException", Cond.classLink RX4 73 "java/lang/IllegalStateException", Cond.initialized "java/lang/IllegalStateException", Cond.fieldLink RX4 274 "TrunkYards" "departed" "I", Cond.fieldLink RX4 54 "TrunkYards" "destination" "[I", Cond.fieldLink RX4 12 "TrunkYards" "rows" "LTrunkYards$Rows;", Cond.methodLink RX4 287 yX4_isTrack, Cond.static yX4_isTrack, Cond.initialized RX4, Cond.code yX4_isTrack cX4_isTrack 1 (some .boolean), Cond.methodLink RX4 61 yX4_rowOf, Cond.static yX4_rowOf, Cond.code yX4_rowOf cX4_rowOf 2 (some .int), Cond.methodLink RX4 91 yX2_count, Cond.instanceMethod yX2_count, Cond.selects RX2 yX2_count yX2_count, Cond.initialized RX2, Cond.code yX2_count cX2_count 2 (some .int), Cond.fieldLink RX2 9 "TrunkYards$Rows" "counts" "[I", Cond.methodLink RX4 69 yX2_hasRoom, Cond.instanceMethod yX2_hasRoom]
def wsX4_arrive_r2 : List Cond := [Cond.selects RX2 yX2_hasRoom yX2_hasRoom, Cond.code yX2_hasRoom cX2_hasRoom 3 (some .boolean), Cond.methodLink RX4 294 yX4_unload, Cond.instanceMethod yX4_unload, Cond.selects RX4 yX4_unload yX4_unload, Cond.code yX4_unload cX4_unload 4 none, Cond.fieldLink RX4 29 "TrunkYards" "ledger" "LTrunkYards$Ledger;", Cond.methodLink RX4 107 yX2_get, Cond.instanceMethod yX2_get, Cond.selects RX2 yX2_get yX2_get, Cond.code yX2_get cX2_get 3 (some .int), Cond.fieldLink RX2 15 "TrunkYards$Rows" "standing" "[I", Cond.methodLink RX4 130 yX1_bookingFor, Cond.instanceMethod yX1_bookingFor, Cond.selects RX1 yX1_bookingFor yX1_bookingFor, Cond.initialized RX1, Cond.code yX1_bookingFor cX1_bookingFor 2 (some .int), Cond.fieldLink RX1 33 "TrunkYards$Ledger" "bookingOfWagon" "[I", Cond.methodLink RX4 206 yX1_release, Cond.instanceMethod yX1_release, Cond.selects RX1 yX1_release yX1_release, Cond.code yX1_release cX1_release 4 none, Cond.fieldLink RX1 21 "TrunkYards$Ledger" "standings" "[I", Cond.fieldLink RX1 27 "TrunkYards$Ledger" "sizes" "[I"]
def wsX4_arrive_r3 : List Cond := [Cond.methodLink RX1 46 yX1_get, Cond.instanceMethod yX1_get, Cond.selects RX1 yX1_get yX1_get, Cond.code yX1_get cX1_get 3 (some .int), Cond.fieldLink RX1 30 "TrunkYards$Ledger" "booked" "[I", Cond.methodLink RX4 97 yX4_moveLast, Cond.instanceMethod yX4_moveLast, Cond.selects RX4 yX4_moveLast yX4_moveLast, Cond.code yX4_moveLast cX4_moveLast 4 none, Cond.fieldLink RX4 22 "TrunkYards" "history" "LTrunkYards$History;", Cond.methodLink RX4 327 yX2_move, Cond.instanceMethod yX2_move, Cond.selects RX2 yX2_move yX2_move, Cond.code yX2_move cX2_move 7 none, Cond.methodLink RX4 330 yX0_noteMove, Cond.instanceMethod yX0_noteMove, Cond.selects RX0 yX0_noteMove yX0_noteMove, Cond.initialized RX0, Cond.code yX0_noteMove cX0_noteMove 4 none, Cond.fieldLink RX0 25 "TrunkYards$History" "noted" "I", Cond.fieldLink RX0 9 "TrunkYards$History" "from" "[I", Cond.fieldLink RX0 15 "TrunkYards$History" "to" "[I", Cond.fieldLink RX0 18 "TrunkYards$History" "many" "[I"]
def wsX4_arrive : List Cond := .code yX4_arrive cX4_arrive 6 (some .int) :: ((wsX4_arrive_r1 ++ (wsX4_arrive_r2 ++ wsX4_arrive_r3)) ++ wsX40 ++ wsX20 ++ wsX10 ++ wsX00 ++ (vx_atS RX4 265 "java/lang/IndexOutOfBoundsException" ["java/lang/RuntimeException", "java/lang/Exception"]).filter goodWord ++ (vx_atS RX4 90 "java/lang/IllegalArgumentException" ["java/lang/RuntimeException", "java/lang/Exception"]).filter goodWord ++ (vx_atS RX4 77 "java/lang/IllegalStateException" ["java/lang/RuntimeException", "java/lang/Exception"]).filter goodWord)
def wsX4_trains : List Cond := .code yX4_trains cX4_trains 1 (some .int) :: ([.fieldLink RX4 274 "TrunkYards" "departed" "I"] ++ wsX40)
def wsX5_init_r1 : List Cond := [Cond.methodLink RX5 1 objectInit, Cond.instanceMethod objectInit, Cond.code objectInit ⟨#[0xb1]⟩ 1 none, Cond.arrayClass .int, Cond.fieldLink RX5 7 "TrunkYardsModel" "where" "[I", Cond.fieldLink RX5 13 "TrunkYardsModel" "carried" "[I", Cond.fieldLink RX5 16 "TrunkYardsModel" "booking" "[I", Cond.fieldLink RX5 19 "TrunkYardsModel" "on" "[I", Cond.fieldLink RX5 22 "TrunkYardsModel" "track" "[I", Cond.fieldLink RX5 25 "TrunkYardsModel" "follows" "[I", Cond.fieldLink RX5 28 "TrunkYardsModel" "trunk" "[I", Cond.fieldLink RX5 31 "TrunkYardsModel" "lines" "[I", Cond.fieldLink RX5 34 "TrunkYardsModel" "customer" "[I", Cond.fieldLink RX5 37 "TrunkYardsModel" "yard" "[I", Cond.arrayClass .boolean, Cond.fieldLink RX5 40 "TrunkYardsModel" "goesOn" "[Z", Cond.fieldLink RX5 44 "TrunkYardsModel" "open" "[I", Cond.fieldLink RX5 47 "TrunkYardsModel" "state" "[I", Cond.fieldLink RX5 50 "TrunkYardsModel" "grain" "[I", Cond.fieldLink RX5 53 "TrunkYardsModel" "owner" "[I", Cond.fieldLink RX5 56 "TrunkYardsModel" "booked" "[I", Cond.fieldLink RX5 59 "TrunkYardsModel" "lapse" "[I", Cond.fieldLink RX5 62 "TrunkYardsModel" "many" "[I", Cond.fieldLink RX5 65 "TrunkYardsModel" "wagonOf" "[I"]
def wsX5_init_r2 : List Cond := [Cond.fieldLink RX5 68 "TrunkYardsModel" "goesTo" "[I", Cond.fieldLink RX5 71 "TrunkYardsModel" "hasArrived" "[Z", Cond.fieldLink RX5 74 "TrunkYardsModel" "length" "[I", Cond.fieldLink RX5 77 "TrunkYardsModel" "train" "[I"]
def wsX5_init : List Cond := .code yX5_init cX5_init 1 none :: ((wsX5_init_r1 ++ wsX5_init_r2) ++ wsX50)
def wsX5_thrown : List Cond := .code yX5_thrown cX5_thrown 1 (some .int) :: ([.fieldLink RX5 80 "TrunkYardsModel" "thrown" "I"] ++ wsX50)
def wsX5_in : List Cond := .code yX5_in cX5_in 3 (some .boolean) :: ([])
def wsX5_isYard : List Cond := .code yX5_isYard cX5_isYard 1 (some .boolean) :: ([.methodLink RX5 84 yX5_in, .static yX5_in, .initialized RX5, .code yX5_in cX5_in 3 (some .boolean)])
def wsX5_isTrack : List Cond := .code yX5_isTrack cX5_isTrack 2 (some .boolean) :: ([.methodLink RX5 88 yX5_isYard, .static yX5_isYard, .initialized RX5, .code yX5_isYard cX5_isYard 1 (some .boolean), .methodLink RX5 84 yX5_in, .static yX5_in, .code yX5_in cX5_in 3 (some .boolean)])
def wsX5_isGrain : List Cond := .code yX5_isGrain cX5_isGrain 1 (some .boolean) :: ([.methodLink RX5 84 yX5_in, .static yX5_in, .initialized RX5, .code yX5_in cX5_in 3 (some .boolean)])
def wsX5_isWagon : List Cond := .code yX5_isWagon cX5_isWagon 2 (some .boolean) :: ([.fieldLink RX5 92 "TrunkYardsModel" "wagons" "I", .methodLink RX5 84 yX5_in, .static yX5_in, .initialized RX5, .code yX5_in cX5_in 3 (some .boolean)] ++ wsX50)
def wsX5_puts : List Cond := .code yX5_puts cX5_puts 5 none :: ([.fieldLink RX5 22 "TrunkYardsModel" "track" "[I", .fieldLink RX5 19 "TrunkYardsModel" "on" "[I", .fieldLink RX5 7 "TrunkYardsModel" "where" "[I"] ++ wsX50)
def wsX5_wagon : List Cond := .code yX5_wagon cX5_wagon 3 (some .int) :: ([.fieldLink RX5 92 "TrunkYardsModel" "wagons" "I", .fieldLink RX5 19 "TrunkYardsModel" "on" "[I", .fieldLink RX5 80 "TrunkYardsModel" "thrown" "I", .fieldLink RX5 13 "TrunkYardsModel" "carried" "[I", .fieldLink RX5 16 "TrunkYardsModel" "booking" "[I", .methodLink RX5 95 yX5_isTrack, .static yX5_isTrack, .initialized RX5, .code yX5_isTrack cX5_isTrack 2 (some .boolean), .methodLink RX5 88 yX5_isYard, .static yX5_isYard, .code yX5_isYard cX5_isYard 1 (some .boolean), .methodLink RX5 84 yX5_in, .static yX5_in, .code yX5_in cX5_in 3 (some .boolean), .methodLink RX5 99 yX5_puts, .instanceMethod yX5_puts, .selects RX5 yX5_puts yX5_puts, .code yX5_puts cX5_puts 5 none, .fieldLink RX5 22 "TrunkYardsModel" "track" "[I", .fieldLink RX5 7 "TrunkYardsModel" "where" "[I"] ++ wsX50)
def wsX5_shunt : List Cond := .code yX5_shunt cX5_shunt 8 (some .int) :: ([.fieldLink RX5 19 "TrunkYardsModel" "on" "[I", .fieldLink RX5 80 "TrunkYardsModel" "thrown" "I", .fieldLink RX5 22 "TrunkYardsModel" "track" "[I", .methodLink RX5 95 yX5_isTrack, .static yX5_isTrack, .initialized RX5, .code yX5_isTrack cX5_isTrack 2 (some .boolean), .methodLink RX5 88 yX5_isYard, .static yX5_isYard, .code yX5_isYard cX5_isYard 1 (some .boolean), .methodLink RX5 84 yX5_in, .static yX5_in, .code yX5_in cX5_in 3 (some .boolean), .methodLink RX5 99 yX5_puts, .instanceMethod yX5_puts, .selects RX5 yX5_puts yX5_puts, .code yX5_puts cX5_puts 5 none, .fieldLink RX5 7 "TrunkYardsModel" "where" "[I"] ++ wsX50)
def wsX5_wash : List Cond := .code yX5_wash cX5_wash 5 (some .int) :: ([.fieldLink RX5 19 "TrunkYardsModel" "on" "[I", .fieldLink RX5 80 "TrunkYardsModel" "thrown" "I", .fieldLink RX5 22 "TrunkYardsModel" "track" "[I", .fieldLink RX5 13 "TrunkYardsModel" "carried" "[I", .methodLink RX5 88 yX5_isYard, .static yX5_isYard, .initialized RX5, .code yX5_isYard cX5_isYard 1 (some .boolean), .methodLink RX5 84 yX5_in, .static yX5_in, .code yX5_in cX5_in 3 (some .boolean)] ++ wsX50)
def wsX5_follow : List Cond := .code yX5_follow cX5_follow 3 (some .boolean) :: ([.fieldLink RX5 80 "TrunkYardsModel" "thrown" "I", .fieldLink RX5 25 "TrunkYardsModel" "follows" "[I", .methodLink RX5 103 yX5_isGrain, .static yX5_isGrain, .initialized RX5, .code yX5_isGrain cX5_isGrain 1 (some .boolean), .methodLink RX5 84 yX5_in, .static yX5_in, .code yX5_in cX5_in 3 (some .boolean)] ++ wsX50)
def wsX5_on : List Cond := .code yX5_on cX5_on 3 (some .int) :: ([.fieldLink RX5 80 "TrunkYardsModel" "thrown" "I", .fieldLink RX5 19 "TrunkYardsModel" "on" "[I", .methodLink RX5 95 yX5_isTrack, .static yX5_isTrack, .initialized RX5, .code yX5_isTrack cX5_isTrack 2 (some .boolean), .methodLink RX5 88 yX5_isYard, .static yX5_isYard, .code yX5_isYard cX5_isYard 1 (some .boolean), .methodLink RX5 84 yX5_in, .static yX5_in, .code yX5_in cX5_in 3 (some .boolean)] ++ wsX50)
def wsX5_wagonAt : List Cond := .code yX5_wagonAt cX5_wagonAt 4 (some .int) :: ([.fieldLink RX5 19 "TrunkYardsModel" "on" "[I", .fieldLink RX5 80 "TrunkYardsModel" "thrown" "I", .fieldLink RX5 22 "TrunkYardsModel" "track" "[I", .methodLink RX5 95 yX5_isTrack, .static yX5_isTrack, .initialized RX5, .code yX5_isTrack cX5_isTrack 2 (some .boolean), .methodLink RX5 88 yX5_isYard, .static yX5_isYard, .code yX5_isYard cX5_isYard 1 (some .boolean), .methodLink RX5 84 yX5_in, .static yX5_in, .code yX5_in cX5_in 3 (some .boolean)] ++ wsX50)
def wsX5_at : List Cond := .code yX5_at cX5_at 4 (some .int) :: ([.methodLink RX5 106 yX5_wagonAt, .instanceMethod yX5_wagonAt, .selects RX5 yX5_wagonAt yX5_wagonAt, .initialized RX5, .code yX5_wagonAt cX5_wagonAt 4 (some .int), .fieldLink RX5 19 "TrunkYardsModel" "on" "[I", .fieldLink RX5 80 "TrunkYardsModel" "thrown" "I", .fieldLink RX5 22 "TrunkYardsModel" "track" "[I", .methodLink RX5 95 yX5_isTrack, .static yX5_isTrack, .code yX5_isTrack cX5_isTrack 2 (some .boolean), .methodLink RX5 88 yX5_isYard, .static yX5_isYard, .code yX5_isYard cX5_isYard 1 (some .boolean), .methodLink RX5 84 yX5_in, .static yX5_in, .code yX5_in cX5_in 3 (some .boolean)] ++ wsX50)
def wsX5_atByReplay : List Cond := .code yX5_atByReplay cX5_atByReplay 4 (some .int) :: ([.methodLink RX5 106 yX5_wagonAt, .instanceMethod yX5_wagonAt, .selects RX5 yX5_wagonAt yX5_wagonAt, .initialized RX5, .code yX5_wagonAt cX5_wagonAt 4 (some .int), .fieldLink RX5 19 "TrunkYardsModel" "on" "[I", .fieldLink RX5 80 "TrunkYardsModel" "thrown" "I", .fieldLink RX5 22 "TrunkYardsModel" "track" "[I", .methodLink RX5 95 yX5_isTrack, .static yX5_isTrack, .code yX5_isTrack cX5_isTrack 2 (some .boolean), .methodLink RX5 88 yX5_isYard, .static yX5_isYard, .code yX5_isYard cX5_isYard 1 (some .boolean), .methodLink RX5 84 yX5_in, .static yX5_in, .code yX5_in cX5_in 3 (some .boolean)] ++ wsX50)
def wsX5_asksWagon : List Cond := .code yX5_asksWagon cX5_asksWagon 2 (some .boolean) :: ([.fieldLink RX5 80 "TrunkYardsModel" "thrown" "I", .methodLink RX5 110 yX5_isWagon, .instanceMethod yX5_isWagon, .selects RX5 yX5_isWagon yX5_isWagon, .initialized RX5, .code yX5_isWagon cX5_isWagon 2 (some .boolean), .fieldLink RX5 92 "TrunkYardsModel" "wagons" "I", .methodLink RX5 84 yX5_in, .static yX5_in, .code yX5_in cX5_in 3 (some .boolean)] ++ wsX50)
def wsX5_where : List Cond := .code yX5_where cX5_where 2 (some .int) :: ([.fieldLink RX5 7 "TrunkYardsModel" "where" "[I", .methodLink RX5 113 yX5_asksWagon, .instanceMethod yX5_asksWagon, .selects RX5 yX5_asksWagon yX5_asksWagon, .initialized RX5, .code yX5_asksWagon cX5_asksWagon 2 (some .boolean), .fieldLink RX5 80 "TrunkYardsModel" "thrown" "I", .methodLink RX5 110 yX5_isWagon, .instanceMethod yX5_isWagon, .selects RX5 yX5_isWagon yX5_isWagon, .code yX5_isWagon cX5_isWagon 2 (some .boolean), .fieldLink RX5 92 "TrunkYardsModel" "wagons" "I", .methodLink RX5 84 yX5_in, .static yX5_in, .code yX5_in cX5_in 3 (some .boolean)] ++ wsX50)
def wsX5_carried : List Cond := .code yX5_carried cX5_carried 2 (some .int) :: ([.fieldLink RX5 13 "TrunkYardsModel" "carried" "[I", .methodLink RX5 113 yX5_asksWagon, .instanceMethod yX5_asksWagon, .selects RX5 yX5_asksWagon yX5_asksWagon, .initialized RX5, .code yX5_asksWagon cX5_asksWagon 2 (some .boolean), .fieldLink RX5 80 "TrunkYardsModel" "thrown" "I", .methodLink RX5 110 yX5_isWagon, .instanceMethod yX5_isWagon, .selects RX5 yX5_isWagon yX5_isWagon, .code yX5_isWagon cX5_isWagon 2 (some .boolean), .fieldLink RX5 92 "TrunkYardsModel" "wagons" "I", .methodLink RX5 84 yX5_in, .static yX5_in, .code yX5_in cX5_in 3 (some .boolean)] ++ wsX50)
def wsX5_isPromised : List Cond := .code yX5_isPromised cX5_isPromised 2 (some .boolean) :: ([.fieldLink RX5 16 "TrunkYardsModel" "booking" "[I", .fieldLink RX5 47 "TrunkYardsModel" "state" "[I"] ++ wsX50)
def wsX5_promised : List Cond := .code yX5_promised cX5_promised 2 (some .int) :: ([.fieldLink RX5 16 "TrunkYardsModel" "booking" "[I", .methodLink RX5 113 yX5_asksWagon, .instanceMethod yX5_asksWagon, .selects RX5 yX5_asksWagon yX5_asksWagon, .initialized RX5, .code yX5_asksWagon cX5_asksWagon 2 (some .boolean), .fieldLink RX5 80 "TrunkYardsModel" "thrown" "I", .methodLink RX5 110 yX5_isWagon, .instanceMethod yX5_isWagon, .selects RX5 yX5_isWagon yX5_isWagon, .code yX5_isWagon cX5_isWagon 2 (some .boolean), .fieldLink RX5 92 "TrunkYardsModel" "wagons" "I", .methodLink RX5 84 yX5_in, .static yX5_in, .code yX5_in cX5_in 3 (some .boolean), .methodLink RX5 116 yX5_isPromised, .instanceMethod yX5_isPromised, .selects RX5 yX5_isPromised yX5_isPromised, .code yX5_isPromised cX5_isPromised 2 (some .boolean), .fieldLink RX5 47 "TrunkYardsModel" "state" "[I"] ++ wsX50)
def wsX5_isCall : List Cond := .code yX5_isCall cX5_isCall 2 (some .boolean) :: ([.fieldLink RX5 119 "TrunkYardsModel" "calls" "I", .methodLink RX5 84 yX5_in, .static yX5_in, .initialized RX5, .code yX5_in cX5_in 3 (some .boolean)] ++ wsX50)
def wsX5_isBooking : List Cond := .code yX5_isBooking cX5_isBooking 2 (some .boolean) :: ([.fieldLink RX5 122 "TrunkYardsModel" "bookings" "I", .methodLink RX5 84 yX5_in, .static yX5_in, .initialized RX5, .code yX5_in cX5_in 3 (some .boolean)] ++ wsX50)
def wsX5_callNow : List Cond := .code yX5_callNow cX5_callNow 4 (some .int) :: ([.fieldLink RX5 119 "TrunkYardsModel" "calls" "I", .fieldLink RX5 40 "TrunkYardsModel" "goesOn" "[Z", .fieldLink RX5 34 "TrunkYardsModel" "customer" "[I"] ++ wsX50)
def wsX5_callsTo : List Cond := .code yX5_callsTo cX5_callsTo 4 (some .int) :: ([.fieldLink RX5 119 "TrunkYardsModel" "calls" "I", .fieldLink RX5 40 "TrunkYardsModel" "goesOn" "[Z", .fieldLink RX5 37 "TrunkYardsModel" "yard" "[I"] ++ wsX50)
def wsX5_between : List Cond := .code yX5_between cX5_between 2 (some .int) :: ([])
def wsX5_freeBetween : List Cond := .code yX5_freeBetween cX5_freeBetween 4 (some .int) :: ([.fieldLink RX5 28 "TrunkYardsModel" "trunk" "[I", .methodLink RX5 125 yX5_between, .static yX5_between, .initialized RX5, .code yX5_between cX5_between 2 (some .int)] ++ wsX50)
def wsX5_takesWay : List Cond := .code yX5_takesWay cX5_takesWay 7 (some .boolean) :: ([.fieldLink RX5 28 "TrunkYardsModel" "trunk" "[I", .fieldLink RX5 119 "TrunkYardsModel" "calls" "I", .methodLink RX5 129 yX5_freeBetween, .instanceMethod yX5_freeBetween, .selects RX5 yX5_freeBetween yX5_freeBetween, .initialized RX5, .code yX5_freeBetween cX5_freeBetween 4 (some .int), .methodLink RX5 125 yX5_between, .static yX5_between, .code yX5_between cX5_between 2 (some .int)] ++ wsX50)
def wsX5_call_r1 : List Cond := [Cond.fieldLink RX5 119 "TrunkYardsModel" "calls" "I", Cond.fieldLink RX5 80 "TrunkYardsModel" "thrown" "I", Cond.fieldLink RX5 31 "TrunkYardsModel" "lines" "[I", Cond.fieldLink RX5 142 "TrunkYardsModel" "busy" "I", Cond.fieldLink RX5 34 "TrunkYardsModel" "customer" "[I", Cond.fieldLink RX5 37 "TrunkYardsModel" "yard" "[I", Cond.fieldLink RX5 40 "TrunkYardsModel" "goesOn" "[Z", Cond.fieldLink RX5 44 "TrunkYardsModel" "open" "[I", Cond.methodLink RX5 84 yX5_in, Cond.static yX5_in, Cond.initialized RX5, Cond.code yX5_in cX5_in 3 (some .boolean), Cond.methodLink RX5 88 yX5_isYard, Cond.static yX5_isYard, Cond.code yX5_isYard cX5_isYard 1 (some .boolean), Cond.methodLink RX5 132 yX5_callNow, Cond.instanceMethod yX5_callNow, Cond.selects RX5 yX5_callNow yX5_callNow, Cond.code yX5_callNow cX5_callNow 4 (some .int), Cond.methodLink RX5 136 yX5_callsTo, Cond.instanceMethod yX5_callsTo, Cond.selects RX5 yX5_callsTo yX5_callsTo, Cond.code yX5_callsTo cX5_callsTo 4 (some .int), Cond.methodLink RX5 139 yX5_takesWay]
def wsX5_call_r2 : List Cond := [Cond.instanceMethod yX5_takesWay, Cond.selects RX5 yX5_takesWay yX5_takesWay, Cond.code yX5_takesWay cX5_takesWay 7 (some .boolean), Cond.fieldLink RX5 28 "TrunkYardsModel" "trunk" "[I", Cond.methodLink RX5 129 yX5_freeBetween, Cond.instanceMethod yX5_freeBetween, Cond.selects RX5 yX5_freeBetween yX5_freeBetween, Cond.code yX5_freeBetween cX5_freeBetween 4 (some .int), Cond.methodLink RX5 125 yX5_between, Cond.static yX5_between, Cond.code yX5_between cX5_between 2 (some .int)]
def wsX5_call : List Cond := .code yX5_call cX5_call 3 (some .int) :: ((wsX5_call_r1 ++ wsX5_call_r2) ++ wsX50)
def wsX5_fits : List Cond := .code yX5_fits cX5_fits 3 (some .boolean) :: ([.fieldLink RX5 13 "TrunkYardsModel" "carried" "[I", .fieldLink RX5 25 "TrunkYardsModel" "follows" "[I"] ++ wsX50)
def wsX5_finds : List Cond := .code yX5_finds cX5_finds 10 (some .int) :: ([.fieldLink RX5 19 "TrunkYardsModel" "on" "[I", .fieldLink RX5 22 "TrunkYardsModel" "track" "[I", .methodLink RX5 116 yX5_isPromised, .instanceMethod yX5_isPromised, .selects RX5 yX5_isPromised yX5_isPromised, .initialized RX5, .code yX5_isPromised cX5_isPromised 2 (some .boolean), .fieldLink RX5 16 "TrunkYardsModel" "booking" "[I", .fieldLink RX5 47 "TrunkYardsModel" "state" "[I", .methodLink RX5 145 yX5_fits, .instanceMethod yX5_fits, .selects RX5 yX5_fits yX5_fits, .code yX5_fits cX5_fits 3 (some .boolean), .fieldLink RX5 13 "TrunkYardsModel" "carried" "[I", .fieldLink RX5 25 "TrunkYardsModel" "follows" "[I"] ++ wsX50)
def wsX5_adds : List Cond := .code yX5_adds cX5_adds 3 none :: ([.fieldLink RX5 65 "TrunkYardsModel" "wagonOf" "[I", .fieldLink RX5 62 "TrunkYardsModel" "many" "[I", .fieldLink RX5 16 "TrunkYardsModel" "booking" "[I"] ++ wsX50)
def wsX5_ask_r1 : List Cond := [Cond.fieldLink RX5 40 "TrunkYardsModel" "goesOn" "[Z", Cond.fieldLink RX5 80 "TrunkYardsModel" "thrown" "I", Cond.fieldLink RX5 44 "TrunkYardsModel" "open" "[I", Cond.fieldLink RX5 122 "TrunkYardsModel" "bookings" "I", Cond.fieldLink RX5 50 "TrunkYardsModel" "grain" "[I", Cond.fieldLink RX5 37 "TrunkYardsModel" "yard" "[I", Cond.fieldLink RX5 47 "TrunkYardsModel" "state" "[I", Cond.fieldLink RX5 53 "TrunkYardsModel" "owner" "[I", Cond.fieldLink RX5 34 "TrunkYardsModel" "customer" "[I", Cond.fieldLink RX5 56 "TrunkYardsModel" "booked" "[I", Cond.fieldLink RX5 62 "TrunkYardsModel" "many" "[I", Cond.methodLink RX5 148 yX5_isCall, Cond.instanceMethod yX5_isCall, Cond.selects RX5 yX5_isCall yX5_isCall, Cond.initialized RX5, Cond.code yX5_isCall cX5_isCall 2 (some .boolean), Cond.fieldLink RX5 119 "TrunkYardsModel" "calls" "I", Cond.methodLink RX5 84 yX5_in, Cond.static yX5_in, Cond.code yX5_in cX5_in 3 (some .boolean), Cond.methodLink RX5 103 yX5_isGrain, Cond.static yX5_isGrain, Cond.code yX5_isGrain cX5_isGrain 1 (some .boolean), Cond.methodLink RX5 151 yX5_finds]
def wsX5_ask_r2 : List Cond := [Cond.instanceMethod yX5_finds, Cond.selects RX5 yX5_finds yX5_finds, Cond.code yX5_finds cX5_finds 10 (some .int), Cond.fieldLink RX5 19 "TrunkYardsModel" "on" "[I", Cond.fieldLink RX5 22 "TrunkYardsModel" "track" "[I", Cond.methodLink RX5 116 yX5_isPromised, Cond.instanceMethod yX5_isPromised, Cond.selects RX5 yX5_isPromised yX5_isPromised, Cond.code yX5_isPromised cX5_isPromised 2 (some .boolean), Cond.fieldLink RX5 16 "TrunkYardsModel" "booking" "[I", Cond.methodLink RX5 145 yX5_fits, Cond.instanceMethod yX5_fits, Cond.selects RX5 yX5_fits yX5_fits, Cond.code yX5_fits cX5_fits 3 (some .boolean), Cond.fieldLink RX5 13 "TrunkYardsModel" "carried" "[I", Cond.fieldLink RX5 25 "TrunkYardsModel" "follows" "[I", Cond.methodLink RX5 154 yX5_adds, Cond.instanceMethod yX5_adds, Cond.selects RX5 yX5_adds yX5_adds, Cond.code yX5_adds cX5_adds 3 none, Cond.fieldLink RX5 65 "TrunkYardsModel" "wagonOf" "[I"]
def wsX5_ask : List Cond := .code yX5_ask cX5_ask 4 (some .int) :: ((wsX5_ask_r1 ++ wsX5_ask_r2) ++ wsX50)
def wsX5_confirm : List Cond := .code yX5_confirm cX5_confirm 3 (some .int) :: ([.fieldLink RX5 40 "TrunkYardsModel" "goesOn" "[Z", .fieldLink RX5 44 "TrunkYardsModel" "open" "[I", .fieldLink RX5 80 "TrunkYardsModel" "thrown" "I", .fieldLink RX5 47 "TrunkYardsModel" "state" "[I", .methodLink RX5 148 yX5_isCall, .instanceMethod yX5_isCall, .selects RX5 yX5_isCall yX5_isCall, .initialized RX5, .code yX5_isCall cX5_isCall 2 (some .boolean), .fieldLink RX5 119 "TrunkYardsModel" "calls" "I", .methodLink RX5 84 yX5_in, .static yX5_in, .code yX5_in cX5_in 3 (some .boolean)] ++ wsX50)
def wsX5_isOf : List Cond := .code yX5_isOf cX5_isOf 3 (some .boolean) :: ([.fieldLink RX5 53 "TrunkYardsModel" "owner" "[I", .fieldLink RX5 34 "TrunkYardsModel" "customer" "[I", .fieldLink RX5 56 "TrunkYardsModel" "booked" "[I", .fieldLink RX5 37 "TrunkYardsModel" "yard" "[I"] ++ wsX50)
def wsX5_resume_r1 : List Cond := [Cond.fieldLink RX5 80 "TrunkYardsModel" "thrown" "I", Cond.fieldLink RX5 40 "TrunkYardsModel" "goesOn" "[Z", Cond.fieldLink RX5 44 "TrunkYardsModel" "open" "[I", Cond.fieldLink RX5 47 "TrunkYardsModel" "state" "[I", Cond.fieldLink RX5 62 "TrunkYardsModel" "many" "[I", Cond.methodLink RX5 148 yX5_isCall, Cond.instanceMethod yX5_isCall, Cond.selects RX5 yX5_isCall yX5_isCall, Cond.initialized RX5, Cond.code yX5_isCall cX5_isCall 2 (some .boolean), Cond.fieldLink RX5 119 "TrunkYardsModel" "calls" "I", Cond.methodLink RX5 84 yX5_in, Cond.static yX5_in, Cond.code yX5_in cX5_in 3 (some .boolean), Cond.methodLink RX5 158 yX5_isBooking, Cond.instanceMethod yX5_isBooking, Cond.selects RX5 yX5_isBooking yX5_isBooking, Cond.code yX5_isBooking cX5_isBooking 2 (some .boolean), Cond.fieldLink RX5 122 "TrunkYardsModel" "bookings" "I", Cond.methodLink RX5 161 yX5_isOf, Cond.instanceMethod yX5_isOf, Cond.selects RX5 yX5_isOf yX5_isOf, Cond.code yX5_isOf cX5_isOf 3 (some .boolean), Cond.fieldLink RX5 53 "TrunkYardsModel" "owner" "[I"]
def wsX5_resume_r2 : List Cond := [Cond.fieldLink RX5 34 "TrunkYardsModel" "customer" "[I", Cond.fieldLink RX5 56 "TrunkYardsModel" "booked" "[I", Cond.fieldLink RX5 37 "TrunkYardsModel" "yard" "[I"]
def wsX5_resume : List Cond := .code yX5_resume cX5_resume 3 (some .int) :: ((wsX5_resume_r1 ++ wsX5_resume_r2) ++ wsX50)
def wsX5_cancel_r1 : List Cond := [Cond.fieldLink RX5 80 "TrunkYardsModel" "thrown" "I", Cond.fieldLink RX5 40 "TrunkYardsModel" "goesOn" "[Z", Cond.fieldLink RX5 47 "TrunkYardsModel" "state" "[I", Cond.fieldLink RX5 62 "TrunkYardsModel" "many" "[I", Cond.methodLink RX5 148 yX5_isCall, Cond.instanceMethod yX5_isCall, Cond.selects RX5 yX5_isCall yX5_isCall, Cond.initialized RX5, Cond.code yX5_isCall cX5_isCall 2 (some .boolean), Cond.fieldLink RX5 119 "TrunkYardsModel" "calls" "I", Cond.methodLink RX5 84 yX5_in, Cond.static yX5_in, Cond.code yX5_in cX5_in 3 (some .boolean), Cond.methodLink RX5 158 yX5_isBooking, Cond.instanceMethod yX5_isBooking, Cond.selects RX5 yX5_isBooking yX5_isBooking, Cond.code yX5_isBooking cX5_isBooking 2 (some .boolean), Cond.fieldLink RX5 122 "TrunkYardsModel" "bookings" "I", Cond.methodLink RX5 161 yX5_isOf, Cond.instanceMethod yX5_isOf, Cond.selects RX5 yX5_isOf yX5_isOf, Cond.code yX5_isOf cX5_isOf 3 (some .boolean), Cond.fieldLink RX5 53 "TrunkYardsModel" "owner" "[I", Cond.fieldLink RX5 34 "TrunkYardsModel" "customer" "[I"]
def wsX5_cancel_r2 : List Cond := [Cond.fieldLink RX5 56 "TrunkYardsModel" "booked" "[I", Cond.fieldLink RX5 37 "TrunkYardsModel" "yard" "[I"]
def wsX5_cancel : List Cond := .code yX5_cancel cX5_cancel 3 (some .int) :: ((wsX5_cancel_r1 ++ wsX5_cancel_r2) ++ wsX50)
def wsX5_ends : List Cond := .code yX5_ends cX5_ends 3 none :: ([.fieldLink RX5 40 "TrunkYardsModel" "goesOn" "[Z", .fieldLink RX5 28 "TrunkYardsModel" "trunk" "[I"] ++ wsX50)
def wsX5_hangUp : List Cond := .code yX5_hangUp cX5_hangUp 3 (some .int) :: ([.fieldLink RX5 40 "TrunkYardsModel" "goesOn" "[Z", .fieldLink RX5 80 "TrunkYardsModel" "thrown" "I", .fieldLink RX5 44 "TrunkYardsModel" "open" "[I", .fieldLink RX5 47 "TrunkYardsModel" "state" "[I", .fieldLink RX5 62 "TrunkYardsModel" "many" "[I", .methodLink RX5 148 yX5_isCall, .instanceMethod yX5_isCall, .selects RX5 yX5_isCall yX5_isCall, .initialized RX5, .code yX5_isCall cX5_isCall 2 (some .boolean), .fieldLink RX5 119 "TrunkYardsModel" "calls" "I", .methodLink RX5 84 yX5_in, .static yX5_in, .code yX5_in cX5_in 3 (some .boolean), .methodLink RX5 164 yX5_ends, .instanceMethod yX5_ends, .selects RX5 yX5_ends yX5_ends, .code yX5_ends cX5_ends 3 none, .fieldLink RX5 28 "TrunkYardsModel" "trunk" "[I"] ++ wsX50)
def wsX5_callOf : List Cond := .code yX5_callOf cX5_callOf 2 (some .int) :: ([.fieldLink RX5 80 "TrunkYardsModel" "thrown" "I", .methodLink RX5 84 yX5_in, .static yX5_in, .initialized RX5, .code yX5_in cX5_in 3 (some .boolean), .methodLink RX5 132 yX5_callNow, .instanceMethod yX5_callNow, .selects RX5 yX5_callNow yX5_callNow, .code yX5_callNow cX5_callNow 4 (some .int), .fieldLink RX5 119 "TrunkYardsModel" "calls" "I", .fieldLink RX5 40 "TrunkYardsModel" "goesOn" "[Z", .fieldLink RX5 34 "TrunkYardsModel" "customer" "[I"] ++ wsX50)
def wsX5_way : List Cond := .code yX5_way cX5_way 4 (some .int) :: ([.fieldLink RX5 40 "TrunkYardsModel" "goesOn" "[Z", .fieldLink RX5 80 "TrunkYardsModel" "thrown" "I", .fieldLink RX5 28 "TrunkYardsModel" "trunk" "[I", .methodLink RX5 148 yX5_isCall, .instanceMethod yX5_isCall, .selects RX5 yX5_isCall yX5_isCall, .initialized RX5, .code yX5_isCall cX5_isCall 2 (some .boolean), .fieldLink RX5 119 "TrunkYardsModel" "calls" "I", .methodLink RX5 84 yX5_in, .static yX5_in, .code yX5_in cX5_in 3 (some .boolean)] ++ wsX50)
def wsX5_busy : List Cond := .code yX5_busy cX5_busy 1 (some .int) :: ([.fieldLink RX5 80 "TrunkYardsModel" "thrown" "I", .fieldLink RX5 142 "TrunkYardsModel" "busy" "I"] ++ wsX50)
def wsX5_isTrunk : List Cond := .code yX5_isTrunk cX5_isTrunk 3 (some .boolean) :: ([.methodLink RX5 88 yX5_isYard, .static yX5_isYard, .initialized RX5, .code yX5_isYard cX5_isYard 1 (some .boolean), .methodLink RX5 84 yX5_in, .static yX5_in, .code yX5_in cX5_in 3 (some .boolean)])
def wsX5_cut : List Cond := .code yX5_cut cX5_cut 5 (some .int) :: ([.fieldLink RX5 28 "TrunkYardsModel" "trunk" "[I", .fieldLink RX5 80 "TrunkYardsModel" "thrown" "I", .fieldLink RX5 44 "TrunkYardsModel" "open" "[I", .fieldLink RX5 47 "TrunkYardsModel" "state" "[I", .fieldLink RX5 59 "TrunkYardsModel" "lapse" "[I", .fieldLink RX5 171 "TrunkYardsModel" "now" "I", .methodLink RX5 168 yX5_isTrunk, .static yX5_isTrunk, .initialized RX5, .code yX5_isTrunk cX5_isTrunk 3 (some .boolean), .methodLink RX5 88 yX5_isYard, .static yX5_isYard, .code yX5_isYard cX5_isYard 1 (some .boolean), .methodLink RX5 84 yX5_in, .static yX5_in, .code yX5_in cX5_in 3 (some .boolean), .methodLink RX5 125 yX5_between, .static yX5_between, .code yX5_between cX5_between 2 (some .int), .methodLink RX5 164 yX5_ends, .instanceMethod yX5_ends, .selects RX5 yX5_ends yX5_ends, .code yX5_ends cX5_ends 3 none, .fieldLink RX5 40 "TrunkYardsModel" "goesOn" "[Z"] ++ wsX50)
def wsX5_mend : List Cond := .code yX5_mend cX5_mend 4 none :: ([.fieldLink RX5 28 "TrunkYardsModel" "trunk" "[I", .fieldLink RX5 80 "TrunkYardsModel" "thrown" "I", .methodLink RX5 168 yX5_isTrunk, .static yX5_isTrunk, .initialized RX5, .code yX5_isTrunk cX5_isTrunk 3 (some .boolean), .methodLink RX5 88 yX5_isYard, .static yX5_isYard, .code yX5_isYard cX5_isYard 1 (some .boolean), .methodLink RX5 84 yX5_in, .static yX5_in, .code yX5_in cX5_in 3 (some .boolean), .methodLink RX5 125 yX5_between, .static yX5_between, .code yX5_between cX5_between 2 (some .int)] ++ wsX50)
def wsX5_trunk : List Cond := .code yX5_trunk cX5_trunk 4 (some .int) :: ([.fieldLink RX5 80 "TrunkYardsModel" "thrown" "I", .fieldLink RX5 28 "TrunkYardsModel" "trunk" "[I", .methodLink RX5 168 yX5_isTrunk, .static yX5_isTrunk, .initialized RX5, .code yX5_isTrunk cX5_isTrunk 3 (some .boolean), .methodLink RX5 88 yX5_isYard, .static yX5_isYard, .code yX5_isYard cX5_isYard 1 (some .boolean), .methodLink RX5 84 yX5_in, .static yX5_in, .code yX5_in cX5_in 3 (some .boolean), .methodLink RX5 125 yX5_between, .static yX5_between, .code yX5_between cX5_between 2 (some .int)] ++ wsX50)
def wsX5_setLines : List Cond := .code yX5_setLines cX5_setLines 4 (some .int) :: ([.fieldLink RX5 80 "TrunkYardsModel" "thrown" "I", .fieldLink RX5 31 "TrunkYardsModel" "lines" "[I", .methodLink RX5 88 yX5_isYard, .static yX5_isYard, .initialized RX5, .code yX5_isYard cX5_isYard 1 (some .boolean), .methodLink RX5 84 yX5_in, .static yX5_in, .code yX5_in cX5_in 3 (some .boolean), .methodLink RX5 136 yX5_callsTo, .instanceMethod yX5_callsTo, .selects RX5 yX5_callsTo yX5_callsTo, .code yX5_callsTo cX5_callsTo 4 (some .int), .fieldLink RX5 119 "TrunkYardsModel" "calls" "I", .fieldLink RX5 40 "TrunkYardsModel" "goesOn" "[Z", .fieldLink RX5 37 "TrunkYardsModel" "yard" "[I"] ++ wsX50)
def wsX5_pass : List Cond := .code yX5_pass cX5_pass 4 (some .int) :: ([.fieldLink RX5 171 "TrunkYardsModel" "now" "I", .fieldLink RX5 80 "TrunkYardsModel" "thrown" "I", .fieldLink RX5 122 "TrunkYardsModel" "bookings" "I", .fieldLink RX5 47 "TrunkYardsModel" "state" "[I", .fieldLink RX5 59 "TrunkYardsModel" "lapse" "[I", .methodLink RX5 84 yX5_in, .static yX5_in, .initialized RX5, .code yX5_in cX5_in 3 (some .boolean)] ++ wsX50)
def wsX5_bookings : List Cond := .code yX5_bookings cX5_bookings 1 (some .int) :: ([.fieldLink RX5 80 "TrunkYardsModel" "thrown" "I", .fieldLink RX5 122 "TrunkYardsModel" "bookings" "I"] ++ wsX50)
def wsX5_asksBooking : List Cond := .code yX5_asksBooking cX5_asksBooking 2 (some .boolean) :: ([.fieldLink RX5 80 "TrunkYardsModel" "thrown" "I", .methodLink RX5 158 yX5_isBooking, .instanceMethod yX5_isBooking, .selects RX5 yX5_isBooking yX5_isBooking, .initialized RX5, .code yX5_isBooking cX5_isBooking 2 (some .boolean), .fieldLink RX5 122 "TrunkYardsModel" "bookings" "I", .methodLink RX5 84 yX5_in, .static yX5_in, .code yX5_in cX5_in 3 (some .boolean)] ++ wsX50)
def wsX5_state : List Cond := .code yX5_state cX5_state 2 (some .int) :: ([.fieldLink RX5 47 "TrunkYardsModel" "state" "[I", .methodLink RX5 174 yX5_asksBooking, .instanceMethod yX5_asksBooking, .selects RX5 yX5_asksBooking yX5_asksBooking, .initialized RX5, .code yX5_asksBooking cX5_asksBooking 2 (some .boolean), .fieldLink RX5 80 "TrunkYardsModel" "thrown" "I", .methodLink RX5 158 yX5_isBooking, .instanceMethod yX5_isBooking, .selects RX5 yX5_isBooking yX5_isBooking, .code yX5_isBooking cX5_isBooking 2 (some .boolean), .fieldLink RX5 122 "TrunkYardsModel" "bookings" "I", .methodLink RX5 84 yX5_in, .static yX5_in, .code yX5_in cX5_in 3 (some .boolean)] ++ wsX50)
def wsX5_wagons : List Cond := .code yX5_wagons cX5_wagons 2 (some .int) :: ([.fieldLink RX5 62 "TrunkYardsModel" "many" "[I", .methodLink RX5 174 yX5_asksBooking, .instanceMethod yX5_asksBooking, .selects RX5 yX5_asksBooking yX5_asksBooking, .initialized RX5, .code yX5_asksBooking cX5_asksBooking 2 (some .boolean), .fieldLink RX5 80 "TrunkYardsModel" "thrown" "I", .methodLink RX5 158 yX5_isBooking, .instanceMethod yX5_isBooking, .selects RX5 yX5_isBooking yX5_isBooking, .code yX5_isBooking cX5_isBooking 2 (some .boolean), .fieldLink RX5 122 "TrunkYardsModel" "bookings" "I", .methodLink RX5 84 yX5_in, .static yX5_in, .code yX5_in cX5_in 3 (some .boolean)] ++ wsX50)
def wsX5_wagonOf : List Cond := .code yX5_wagonOf cX5_wagonOf 3 (some .int) :: ([.fieldLink RX5 62 "TrunkYardsModel" "many" "[I", .fieldLink RX5 80 "TrunkYardsModel" "thrown" "I", .fieldLink RX5 65 "TrunkYardsModel" "wagonOf" "[I", .methodLink RX5 158 yX5_isBooking, .instanceMethod yX5_isBooking, .selects RX5 yX5_isBooking yX5_isBooking, .initialized RX5, .code yX5_isBooking cX5_isBooking 2 (some .boolean), .fieldLink RX5 122 "TrunkYardsModel" "bookings" "I", .methodLink RX5 84 yX5_in, .static yX5_in, .code yX5_in cX5_in 3 (some .boolean)] ++ wsX50)
def wsX5_lapses : List Cond := .code yX5_lapses cX5_lapses 2 (some .int) :: ([.fieldLink RX5 47 "TrunkYardsModel" "state" "[I", .fieldLink RX5 80 "TrunkYardsModel" "thrown" "I", .fieldLink RX5 59 "TrunkYardsModel" "lapse" "[I", .fieldLink RX5 171 "TrunkYardsModel" "now" "I", .methodLink RX5 158 yX5_isBooking, .instanceMethod yX5_isBooking, .selects RX5 yX5_isBooking yX5_isBooking, .initialized RX5, .code yX5_isBooking cX5_isBooking 2 (some .boolean), .fieldLink RX5 122 "TrunkYardsModel" "bookings" "I", .methodLink RX5 84 yX5_in, .static yX5_in, .code yX5_in cX5_in 3 (some .boolean)] ++ wsX50)
def wsX5_areOn : List Cond := .code yX5_areOn cX5_areOn 5 (some .boolean) :: ([.fieldLink RX5 62 "TrunkYardsModel" "many" "[I", .fieldLink RX5 7 "TrunkYardsModel" "where" "[I", .fieldLink RX5 65 "TrunkYardsModel" "wagonOf" "[I"] ++ wsX50)
def wsX5_canDepart : List Cond := .code yX5_canDepart cX5_canDepart 7 (some .boolean) :: ([.fieldLink RX5 19 "TrunkYardsModel" "on" "[I", .fieldLink RX5 16 "TrunkYardsModel" "booking" "[I", .fieldLink RX5 22 "TrunkYardsModel" "track" "[I", .fieldLink RX5 47 "TrunkYardsModel" "state" "[I", .methodLink RX5 177 yX5_areOn, .instanceMethod yX5_areOn, .selects RX5 yX5_areOn yX5_areOn, .initialized RX5, .code yX5_areOn cX5_areOn 5 (some .boolean), .fieldLink RX5 62 "TrunkYardsModel" "many" "[I", .fieldLink RX5 7 "TrunkYardsModel" "where" "[I", .fieldLink RX5 65 "TrunkYardsModel" "wagonOf" "[I"] ++ wsX50)
def wsX5_depart_r1 : List Cond := [Cond.fieldLink RX5 80 "TrunkYardsModel" "thrown" "I", Cond.fieldLink RX5 19 "TrunkYardsModel" "on" "[I", Cond.fieldLink RX5 22 "TrunkYardsModel" "track" "[I", Cond.fieldLink RX5 77 "TrunkYardsModel" "train" "[I", Cond.fieldLink RX5 183 "TrunkYardsModel" "trains" "I", Cond.fieldLink RX5 7 "TrunkYardsModel" "where" "[I", Cond.fieldLink RX5 13 "TrunkYardsModel" "carried" "[I", Cond.fieldLink RX5 50 "TrunkYardsModel" "grain" "[I", Cond.fieldLink RX5 16 "TrunkYardsModel" "booking" "[I", Cond.fieldLink RX5 47 "TrunkYardsModel" "state" "[I", Cond.fieldLink RX5 74 "TrunkYardsModel" "length" "[I", Cond.fieldLink RX5 68 "TrunkYardsModel" "goesTo" "[I", Cond.methodLink RX5 95 yX5_isTrack, Cond.static yX5_isTrack, Cond.initialized RX5, Cond.code yX5_isTrack cX5_isTrack 2 (some .boolean), Cond.methodLink RX5 88 yX5_isYard, Cond.static yX5_isYard, Cond.code yX5_isYard cX5_isYard 1 (some .boolean), Cond.methodLink RX5 84 yX5_in, Cond.static yX5_in, Cond.code yX5_in cX5_in 3 (some .boolean), Cond.methodLink RX5 180 yX5_canDepart, Cond.instanceMethod yX5_canDepart]
def wsX5_depart_r2 : List Cond := [Cond.selects RX5 yX5_canDepart yX5_canDepart, Cond.code yX5_canDepart cX5_canDepart 7 (some .boolean), Cond.methodLink RX5 177 yX5_areOn, Cond.instanceMethod yX5_areOn, Cond.selects RX5 yX5_areOn yX5_areOn, Cond.code yX5_areOn cX5_areOn 5 (some .boolean), Cond.fieldLink RX5 62 "TrunkYardsModel" "many" "[I", Cond.fieldLink RX5 65 "TrunkYardsModel" "wagonOf" "[I"]
def wsX5_depart : List Cond := .code yX5_depart cX5_depart 7 (some .int) :: ((wsX5_depart_r1 ++ wsX5_depart_r2) ++ wsX50)
def wsX5_arrive : List Cond := .code yX5_arrive cX5_arrive 5 (some .int) :: ([.fieldLink RX5 183 "TrunkYardsModel" "trains" "I", .fieldLink RX5 80 "TrunkYardsModel" "thrown" "I", .fieldLink RX5 71 "TrunkYardsModel" "hasArrived" "[Z", .fieldLink RX5 19 "TrunkYardsModel" "on" "[I", .fieldLink RX5 68 "TrunkYardsModel" "goesTo" "[I", .fieldLink RX5 74 "TrunkYardsModel" "length" "[I", .fieldLink RX5 77 "TrunkYardsModel" "train" "[I", .fieldLink RX5 47 "TrunkYardsModel" "state" "[I", .fieldLink RX5 16 "TrunkYardsModel" "booking" "[I", .methodLink RX5 84 yX5_in, .static yX5_in, .initialized RX5, .code yX5_in cX5_in 3 (some .boolean), .methodLink RX5 99 yX5_puts, .instanceMethod yX5_puts, .selects RX5 yX5_puts yX5_puts, .code yX5_puts cX5_puts 5 none, .fieldLink RX5 22 "TrunkYardsModel" "track" "[I", .fieldLink RX5 7 "TrunkYardsModel" "where" "[I"] ++ wsX50)
def wsX5_trains : List Cond := .code yX5_trains cX5_trains 1 (some .int) :: ([.fieldLink RX5 80 "TrunkYardsModel" "thrown" "I", .fieldLink RX5 183 "TrunkYardsModel" "trains" "I"] ++ wsX50)
def wsL_wagon_r1 : List Cond := [Cond.classLink RL 13 "java/lang/IllegalArgumentException", Cond.methodLink RL 7 yX4_wagon, Cond.instanceMethod yX4_wagon, Cond.selects RX4 yX4_wagon yX4_wagon, Cond.initialized RX4, Cond.code yX4_wagon cX4_wagon 5 (some .int), Cond.classLink RX4 73 "java/lang/IllegalStateException", Cond.initialized "java/lang/IllegalStateException", Cond.fieldLink RX4 65 "TrunkYards" "placed" "I", Cond.fieldLink RX4 12 "TrunkYards" "rows" "LTrunkYards$Rows;", Cond.fieldLink RX4 22 "TrunkYards" "history" "LTrunkYards$History;", Cond.methodLink RX4 57 yX4_requireTrack, Cond.static yX4_requireTrack, Cond.code yX4_requireTrack cX4_requireTrack 2 none, Cond.classLink RX4 86 "java/lang/IllegalArgumentException", Cond.initialized "java/lang/IllegalArgumentException", Cond.methodLink RX4 297 yX4_isYard, Cond.static yX4_isYard, Cond.code yX4_isYard cX4_isYard 1 (some .boolean), Cond.methodLink RX4 287 yX4_isTrack, Cond.static yX4_isTrack, Cond.code yX4_isTrack cX4_isTrack 1 (some .boolean), Cond.methodLink RX4 61 yX4_rowOf, Cond.static yX4_rowOf]
def wsL_wagon_r2 : List Cond := [Cond.code yX4_rowOf cX4_rowOf 2 (some .int), Cond.methodLink RX4 69 yX2_hasRoom, Cond.instanceMethod yX2_hasRoom, Cond.selects RX2 yX2_hasRoom yX2_hasRoom, Cond.initialized RX2, Cond.code yX2_hasRoom cX2_hasRoom 3 (some .boolean), Cond.fieldLink RX2 9 "TrunkYards$Rows" "counts" "[I", Cond.methodLink RX4 80 yX2_put, Cond.instanceMethod yX2_put, Cond.selects RX2 yX2_put yX2_put, Cond.code yX2_put cX2_put 3 none, Cond.fieldLink RX2 15 "TrunkYards$Rows" "standing" "[I", Cond.methodLink RX4 83 yX0_notePlacing, Cond.instanceMethod yX0_notePlacing, Cond.selects RX0 yX0_notePlacing yX0_notePlacing, Cond.initialized RX0, Cond.code yX0_notePlacing cX0_notePlacing 3 none, Cond.methodLink RX0 21 yX0_noteMove, Cond.instanceMethod yX0_noteMove, Cond.selects RX0 yX0_noteMove yX0_noteMove, Cond.code yX0_noteMove cX0_noteMove 4 none, Cond.fieldLink RX0 25 "TrunkYards$History" "noted" "I", Cond.fieldLink RX0 9 "TrunkYards$History" "from" "[I", Cond.fieldLink RX0 15 "TrunkYards$History" "to" "[I"]
def wsL_wagon_r3 : List Cond := [Cond.fieldLink RX0 18 "TrunkYards$History" "many" "[I"]
def wsL_wagon : List Cond := .codeWith yL_wagon cL_wagon 5 (some .int) [(0, 10, 13, 13), (0, 10, 17, 15)] :: ((wsL_wagon_r1 ++ (wsL_wagon_r2 ++ wsL_wagon_r3)) ++ wsX40 ++ wsX20 ++ wsX00 ++ (vx_atS RX4 77 "java/lang/IllegalStateException" ["java/lang/RuntimeException", "java/lang/Exception"]).filter goodWord ++ (vx_atS RX4 90 "java/lang/IllegalArgumentException" ["java/lang/RuntimeException", "java/lang/Exception"]).filter goodWord)
def wsL_shunt_r1 : List Cond := [Cond.classLink RL 13 "java/lang/IllegalArgumentException", Cond.methodLink RL 17 yX4_shunt, Cond.instanceMethod yX4_shunt, Cond.selects RX4 yX4_shunt yX4_shunt, Cond.initialized RX4, Cond.code yX4_shunt cX4_shunt 7 (some .int), Cond.classLink RX4 86 "java/lang/IllegalArgumentException", Cond.initialized "java/lang/IllegalArgumentException", Cond.classLink RX4 73 "java/lang/IllegalStateException", Cond.initialized "java/lang/IllegalStateException", Cond.fieldLink RX4 12 "TrunkYards" "rows" "LTrunkYards$Rows;", Cond.methodLink RX4 57 yX4_requireTrack, Cond.static yX4_requireTrack, Cond.code yX4_requireTrack cX4_requireTrack 2 none, Cond.methodLink RX4 297 yX4_isYard, Cond.static yX4_isYard, Cond.code yX4_isYard cX4_isYard 1 (some .boolean), Cond.methodLink RX4 287 yX4_isTrack, Cond.static yX4_isTrack, Cond.code yX4_isTrack cX4_isTrack 1 (some .boolean), Cond.methodLink RX4 61 yX4_rowOf, Cond.static yX4_rowOf, Cond.code yX4_rowOf cX4_rowOf 2 (some .int), Cond.methodLink RX4 91 yX2_count]
def wsL_shunt_r2 : List Cond := [Cond.instanceMethod yX2_count, Cond.selects RX2 yX2_count yX2_count, Cond.initialized RX2, Cond.code yX2_count cX2_count 2 (some .int), Cond.fieldLink RX2 9 "TrunkYards$Rows" "counts" "[I", Cond.methodLink RX4 69 yX2_hasRoom, Cond.instanceMethod yX2_hasRoom, Cond.selects RX2 yX2_hasRoom yX2_hasRoom, Cond.code yX2_hasRoom cX2_hasRoom 3 (some .boolean), Cond.methodLink RX4 97 yX4_moveLast, Cond.instanceMethod yX4_moveLast, Cond.selects RX4 yX4_moveLast yX4_moveLast, Cond.code yX4_moveLast cX4_moveLast 4 none, Cond.fieldLink RX4 22 "TrunkYards" "history" "LTrunkYards$History;", Cond.methodLink RX4 327 yX2_move, Cond.instanceMethod yX2_move, Cond.selects RX2 yX2_move yX2_move, Cond.code yX2_move cX2_move 7 none, Cond.fieldLink RX2 15 "TrunkYards$Rows" "standing" "[I", Cond.methodLink RX4 330 yX0_noteMove, Cond.instanceMethod yX0_noteMove, Cond.selects RX0 yX0_noteMove yX0_noteMove, Cond.initialized RX0, Cond.code yX0_noteMove cX0_noteMove 4 none]
def wsL_shunt_r3 : List Cond := [Cond.fieldLink RX0 25 "TrunkYards$History" "noted" "I", Cond.fieldLink RX0 9 "TrunkYards$History" "from" "[I", Cond.fieldLink RX0 15 "TrunkYards$History" "to" "[I", Cond.fieldLink RX0 18 "TrunkYards$History" "many" "[I"]
def wsL_shunt : List Cond := .codeWith yL_shunt cL_shunt 7 (some .int) [(0, 14, 17, 13), (0, 14, 21, 15)] :: ((wsL_shunt_r1 ++ (wsL_shunt_r2 ++ wsL_shunt_r3)) ++ wsX40 ++ wsX20 ++ wsX00 ++ (vx_atS RX4 90 "java/lang/IllegalArgumentException" ["java/lang/RuntimeException", "java/lang/Exception"]).filter goodWord ++ (vx_atS RX4 77 "java/lang/IllegalStateException" ["java/lang/RuntimeException", "java/lang/Exception"]).filter goodWord)
def wsL_wash_r1 : List Cond := [Cond.classLink RL 13 "java/lang/IllegalArgumentException", Cond.methodLink RL 21 yX4_wash, Cond.instanceMethod yX4_wash, Cond.selects RX4 yX4_wash yX4_wash, Cond.initialized RX4, Cond.code yX4_wash cX4_wash 6 (some .int), Cond.classLink RX4 73 "java/lang/IllegalStateException", Cond.initialized "java/lang/IllegalStateException", Cond.fieldLink RX4 12 "TrunkYards" "rows" "LTrunkYards$Rows;", Cond.fieldLink RX4 40 "TrunkYards" "lastGrain" "[I", Cond.methodLink RX4 101 yX4_requireYard, Cond.static yX4_requireYard, Cond.code yX4_requireYard cX4_requireYard 1 none, Cond.classLink RX4 86 "java/lang/IllegalArgumentException", Cond.initialized "java/lang/IllegalArgumentException", Cond.methodLink RX4 297 yX4_isYard, Cond.static yX4_isYard, Cond.code yX4_isYard cX4_isYard 1 (some .boolean), Cond.methodLink RX4 61 yX4_rowOf, Cond.static yX4_rowOf, Cond.code yX4_rowOf cX4_rowOf 2 (some .int), Cond.methodLink RX4 91 yX2_count, Cond.instanceMethod yX2_count, Cond.selects RX2 yX2_count yX2_count]
def wsL_wash_r2 : List Cond := [Cond.initialized RX2, Cond.code yX2_count cX2_count 2 (some .int), Cond.fieldLink RX2 9 "TrunkYards$Rows" "counts" "[I", Cond.methodLink RX4 107 yX2_get, Cond.instanceMethod yX2_get, Cond.selects RX2 yX2_get yX2_get, Cond.code yX2_get cX2_get 3 (some .int), Cond.fieldLink RX2 15 "TrunkYards$Rows" "standing" "[I"]
def wsL_wash : List Cond := .codeWith yL_wash cL_wash 4 (some .int) [(0, 9, 12, 13), (0, 9, 15, 15)] :: ((wsL_wash_r1 ++ wsL_wash_r2) ++ wsX40 ++ wsX20 ++ (vx_atS RX4 77 "java/lang/IllegalStateException" ["java/lang/RuntimeException", "java/lang/Exception"]).filter goodWord ++ (vx_atS RX4 90 "java/lang/IllegalArgumentException" ["java/lang/RuntimeException", "java/lang/Exception"]).filter goodWord)
def wsL_follow : List Cond := .codeWith yL_follow cL_follow 5 (some .int) [(0, 17, 20, 13)] :: ([.classLink RL 13 "java/lang/IllegalArgumentException", .methodLink RL 25 yX4_follow, .instanceMethod yX4_follow, .selects RX4 yX4_follow yX4_follow, .initialized RX4, .code yX4_follow cX4_follow 4 (some .boolean), .classLink RX4 86 "java/lang/IllegalArgumentException", .initialized "java/lang/IllegalArgumentException", .fieldLink RX4 50 "TrunkYards" "mayFollow" "[Z", .methodLink RX4 110 yX4_isGrain, .static yX4_isGrain, .code yX4_isGrain cX4_isGrain 1 (some .boolean)] ++ wsX40 ++ (vx_atS RX4 90 "java/lang/IllegalArgumentException" ["java/lang/RuntimeException", "java/lang/Exception"]).filter goodWord)
def wsL_on_r1 : List Cond := [Cond.classLink RL 13 "java/lang/IllegalArgumentException", Cond.methodLink RL 29 yX4_on, Cond.instanceMethod yX4_on, Cond.selects RX4 yX4_on yX4_on, Cond.initialized RX4, Cond.code yX4_on cX4_on 3 (some .int), Cond.fieldLink RX4 12 "TrunkYards" "rows" "LTrunkYards$Rows;", Cond.methodLink RX4 57 yX4_requireTrack, Cond.static yX4_requireTrack, Cond.code yX4_requireTrack cX4_requireTrack 2 none, Cond.classLink RX4 86 "java/lang/IllegalArgumentException", Cond.initialized "java/lang/IllegalArgumentException", Cond.methodLink RX4 297 yX4_isYard, Cond.static yX4_isYard, Cond.code yX4_isYard cX4_isYard 1 (some .boolean), Cond.methodLink RX4 287 yX4_isTrack, Cond.static yX4_isTrack, Cond.code yX4_isTrack cX4_isTrack 1 (some .boolean), Cond.methodLink RX4 61 yX4_rowOf, Cond.static yX4_rowOf, Cond.code yX4_rowOf cX4_rowOf 2 (some .int), Cond.methodLink RX4 91 yX2_count, Cond.instanceMethod yX2_count, Cond.selects RX2 yX2_count yX2_count]
def wsL_on_r2 : List Cond := [Cond.initialized RX2, Cond.code yX2_count cX2_count 2 (some .int), Cond.fieldLink RX2 9 "TrunkYards$Rows" "counts" "[I"]
def wsL_on : List Cond := .codeWith yL_on cL_on 5 (some .int) [(0, 10, 13, 13)] :: ((wsL_on_r1 ++ wsL_on_r2) ++ wsX40 ++ wsX20 ++ (vx_atS RX4 90 "java/lang/IllegalArgumentException" ["java/lang/RuntimeException", "java/lang/Exception"]).filter goodWord)
def wsL_at_r1 : List Cond := [Cond.classLink RL 13 "java/lang/IllegalArgumentException", Cond.methodLink RL 32 yX4_at, Cond.instanceMethod yX4_at, Cond.selects RX4 yX4_at yX4_at, Cond.initialized RX4, Cond.code yX4_at cX4_at 4 (some .int), Cond.fieldLink RX4 12 "TrunkYards" "rows" "LTrunkYards$Rows;", Cond.methodLink RX4 57 yX4_requireTrack, Cond.static yX4_requireTrack, Cond.code yX4_requireTrack cX4_requireTrack 2 none, Cond.classLink RX4 86 "java/lang/IllegalArgumentException", Cond.initialized "java/lang/IllegalArgumentException", Cond.methodLink RX4 297 yX4_isYard, Cond.static yX4_isYard, Cond.code yX4_isYard cX4_isYard 1 (some .boolean), Cond.methodLink RX4 287 yX4_isTrack, Cond.static yX4_isTrack, Cond.code yX4_isTrack cX4_isTrack 1 (some .boolean), Cond.methodLink RX4 61 yX4_rowOf, Cond.static yX4_rowOf, Cond.code yX4_rowOf cX4_rowOf 2 (some .int), Cond.methodLink RX4 116 yX4_wagonIn, Cond.static yX4_wagonIn, Cond.code yX4_wagonIn cX4_wagonIn 3 (some .int)]
def wsL_at_r2 : List Cond := [Cond.classLink RX4 261 "java/lang/IndexOutOfBoundsException", Cond.initialized "java/lang/IndexOutOfBoundsException", Cond.methodLink RX4 91 yX2_count, Cond.instanceMethod yX2_count, Cond.selects RX2 yX2_count yX2_count, Cond.initialized RX2, Cond.code yX2_count cX2_count 2 (some .int), Cond.fieldLink RX2 9 "TrunkYards$Rows" "counts" "[I", Cond.methodLink RX4 107 yX2_get, Cond.instanceMethod yX2_get, Cond.selects RX2 yX2_get yX2_get, Cond.code yX2_get cX2_get 3 (some .int), Cond.fieldLink RX2 15 "TrunkYards$Rows" "standing" "[I"]
def wsL_at : List Cond := .codeWith yL_at cL_at 6 (some .int) [(0, 12, 15, 13), (0, 12, 19, 36)] :: ((wsL_at_r1 ++ wsL_at_r2) ++ wsX40 ++ wsX20 ++ (vx_atS RX4 90 "java/lang/IllegalArgumentException" ["java/lang/RuntimeException", "java/lang/Exception"]).filter goodWord ++ (vx_atS RX4 265 "java/lang/IndexOutOfBoundsException" ["java/lang/RuntimeException", "java/lang/Exception"]).filter goodWord)
def wsL_atByReplay_r1 : List Cond := [Cond.classLink RL 13 "java/lang/IllegalArgumentException", Cond.methodLink RL 38 yX4_atByReplay, Cond.instanceMethod yX4_atByReplay, Cond.selects RX4 yX4_atByReplay yX4_atByReplay, Cond.initialized RX4, Cond.code yX4_atByReplay cX4_atByReplay 4 (some .int), Cond.fieldLink RX4 22 "TrunkYards" "history" "LTrunkYards$History;", Cond.fieldLink RX4 16 "TrunkYards" "replayed" "LTrunkYards$Rows;", Cond.methodLink RX4 57 yX4_requireTrack, Cond.static yX4_requireTrack, Cond.code yX4_requireTrack cX4_requireTrack 2 none, Cond.classLink RX4 86 "java/lang/IllegalArgumentException", Cond.initialized "java/lang/IllegalArgumentException", Cond.methodLink RX4 297 yX4_isYard, Cond.static yX4_isYard, Cond.code yX4_isYard cX4_isYard 1 (some .boolean), Cond.methodLink RX4 287 yX4_isTrack, Cond.static yX4_isTrack, Cond.code yX4_isTrack cX4_isTrack 1 (some .boolean), Cond.methodLink RX4 120 yX0_replay, Cond.instanceMethod yX0_replay, Cond.selects RX0 yX0_replay yX0_replay, Cond.initialized RX0, Cond.code yX0_replay cX0_replay 3 none]
def wsL_atByReplay_r2 : List Cond := [Cond.fieldLink RX0 25 "TrunkYards$History" "noted" "I", Cond.fieldLink RX0 9 "TrunkYards$History" "from" "[I", Cond.fieldLink RX0 15 "TrunkYards$History" "to" "[I", Cond.fieldLink RX0 18 "TrunkYards$History" "many" "[I", Cond.methodLink RX0 29 yX2_clear, Cond.instanceMethod yX2_clear, Cond.selects RX2 yX2_clear yX2_clear, Cond.initialized RX2, Cond.code yX2_clear cX2_clear 1 none, Cond.fieldLink RX2 9 "TrunkYards$Rows" "counts" "[I", Cond.methodLink RX2 22 yJ7_fill_53178, Cond.static yJ7_fill_53178, Cond.initialized RJ7, Cond.code yJ7_fill_53178 cJ7_fill_53178 4 none, Cond.methodLink RX0 34 yX2_put, Cond.instanceMethod yX2_put, Cond.selects RX2 yX2_put yX2_put, Cond.code yX2_put cX2_put 3 none, Cond.fieldLink RX2 15 "TrunkYards$Rows" "standing" "[I", Cond.methodLink RX0 38 yX2_move, Cond.instanceMethod yX2_move, Cond.selects RX2 yX2_move yX2_move, Cond.code yX2_move cX2_move 7 none, Cond.methodLink RX4 61 yX4_rowOf]
def wsL_atByReplay_r3 : List Cond := [Cond.static yX4_rowOf, Cond.code yX4_rowOf cX4_rowOf 2 (some .int), Cond.methodLink RX4 116 yX4_wagonIn, Cond.static yX4_wagonIn, Cond.code yX4_wagonIn cX4_wagonIn 3 (some .int), Cond.classLink RX4 261 "java/lang/IndexOutOfBoundsException", Cond.initialized "java/lang/IndexOutOfBoundsException", Cond.methodLink RX4 91 yX2_count, Cond.instanceMethod yX2_count, Cond.selects RX2 yX2_count yX2_count, Cond.code yX2_count cX2_count 2 (some .int), Cond.methodLink RX4 107 yX2_get, Cond.instanceMethod yX2_get, Cond.selects RX2 yX2_get yX2_get, Cond.code yX2_get cX2_get 3 (some .int)]
def wsL_atByReplay : List Cond := .codeWith yL_atByReplay cL_atByReplay 6 (some .int) [(0, 12, 15, 13), (0, 12, 19, 36)] :: ((wsL_atByReplay_r1 ++ (wsL_atByReplay_r2 ++ wsL_atByReplay_r3)) ++ wsX40 ++ wsX00 ++ wsX20 ++ (vx_atS RX4 90 "java/lang/IllegalArgumentException" ["java/lang/RuntimeException", "java/lang/Exception"]).filter goodWord ++ (vx_atS RX4 265 "java/lang/IndexOutOfBoundsException" ["java/lang/RuntimeException", "java/lang/Exception"]).filter goodWord)
def wsL_where_r1 : List Cond := [Cond.classLink RL 36 "java/lang/IndexOutOfBoundsException", Cond.methodLink RL 41 yX4_where, Cond.instanceMethod yX4_where, Cond.selects RX4 yX4_where yX4_where, Cond.initialized RX4, Cond.code yX4_where cX4_where 3 (some .int), Cond.fieldLink RX4 12 "TrunkYards" "rows" "LTrunkYards$Rows;", Cond.methodLink RX4 124 yX4_requireWagon, Cond.instanceMethod yX4_requireWagon, Cond.selects RX4 yX4_requireWagon yX4_requireWagon, Cond.code yX4_requireWagon cX4_requireWagon 2 none, Cond.classLink RX4 261 "java/lang/IndexOutOfBoundsException", Cond.initialized "java/lang/IndexOutOfBoundsException", Cond.fieldLink RX4 65 "TrunkYards" "placed" "I", Cond.methodLink RX4 127 yX2_findOnTracks, Cond.instanceMethod yX2_findOnTracks, Cond.selects RX2 yX2_findOnTracks yX2_findOnTracks, Cond.initialized RX2, Cond.code yX2_findOnTracks cX2_findOnTracks 4 (some .int), Cond.fieldLink RX2 9 "TrunkYards$Rows" "counts" "[I", Cond.methodLink RX2 18 yX2_get, Cond.instanceMethod yX2_get, Cond.selects RX2 yX2_get yX2_get, Cond.code yX2_get cX2_get 3 (some .int)]
def wsL_where_r2 : List Cond := [Cond.fieldLink RX2 15 "TrunkYards$Rows" "standing" "[I"]
def wsL_where : List Cond := .codeWith yL_where cL_where 4 (some .int) [(0, 9, 12, 36)] :: ((wsL_where_r1 ++ wsL_where_r2) ++ wsX40 ++ wsX20 ++ (vx_atS RX4 265 "java/lang/IndexOutOfBoundsException" ["java/lang/RuntimeException", "java/lang/Exception"]).filter goodWord)
def wsL_carried : List Cond := .codeWith yL_carried cL_carried 4 (some .int) [(0, 9, 12, 36)] :: ([.classLink RL 36 "java/lang/IndexOutOfBoundsException", .methodLink RL 44 yX4_carried, .instanceMethod yX4_carried, .selects RX4 yX4_carried yX4_carried, .initialized RX4, .code yX4_carried cX4_carried 2 (some .int), .fieldLink RX4 40 "TrunkYards" "lastGrain" "[I", .methodLink RX4 124 yX4_requireWagon, .instanceMethod yX4_requireWagon, .selects RX4 yX4_requireWagon yX4_requireWagon, .code yX4_requireWagon cX4_requireWagon 2 none, .classLink RX4 261 "java/lang/IndexOutOfBoundsException", .initialized "java/lang/IndexOutOfBoundsException", .fieldLink RX4 65 "TrunkYards" "placed" "I"] ++ wsX40 ++ (vx_atS RX4 265 "java/lang/IndexOutOfBoundsException" ["java/lang/RuntimeException", "java/lang/Exception"]).filter goodWord)
def wsL_promised : List Cond := .codeWith yL_promised cL_promised 4 (some .int) [(0, 9, 12, 36)] :: ([.classLink RL 36 "java/lang/IndexOutOfBoundsException", .methodLink RL 47 yX4_promised, .instanceMethod yX4_promised, .selects RX4 yX4_promised yX4_promised, .initialized RX4, .code yX4_promised cX4_promised 2 (some .int), .fieldLink RX4 29 "TrunkYards" "ledger" "LTrunkYards$Ledger;", .methodLink RX4 124 yX4_requireWagon, .instanceMethod yX4_requireWagon, .selects RX4 yX4_requireWagon yX4_requireWagon, .code yX4_requireWagon cX4_requireWagon 2 none, .classLink RX4 261 "java/lang/IndexOutOfBoundsException", .initialized "java/lang/IndexOutOfBoundsException", .fieldLink RX4 65 "TrunkYards" "placed" "I", .methodLink RX4 130 yX1_bookingFor, .instanceMethod yX1_bookingFor, .selects RX1 yX1_bookingFor yX1_bookingFor, .initialized RX1, .code yX1_bookingFor cX1_bookingFor 2 (some .int), .fieldLink RX1 33 "TrunkYards$Ledger" "bookingOfWagon" "[I"] ++ wsX40 ++ wsX10 ++ (vx_atS RX4 265 "java/lang/IndexOutOfBoundsException" ["java/lang/RuntimeException", "java/lang/Exception"]).filter goodWord)
def wsL_call_r1 : List Cond := [Cond.classLink RL 13 "java/lang/IllegalArgumentException", Cond.methodLink RL 50 yX4_call, Cond.instanceMethod yX4_call, Cond.selects RX4 yX4_call yX4_call, Cond.initialized RX4, Cond.code yX4_call cX4_call 4 (some .int), Cond.classLink RX4 73 "java/lang/IllegalStateException", Cond.initialized "java/lang/IllegalStateException", Cond.fieldLink RX4 36 "TrunkYards" "board" "LTrunkYards$Switchboard;", Cond.fieldLink RX4 148 "TrunkYards" "busyCalls" "I", Cond.methodLink RX4 133 yX4_requireCustomer, Cond.static yX4_requireCustomer, Cond.code yX4_requireCustomer cX4_requireCustomer 1 none, Cond.classLink RX4 86 "java/lang/IllegalArgumentException", Cond.initialized "java/lang/IllegalArgumentException", Cond.methodLink RX4 101 yX4_requireYard, Cond.static yX4_requireYard, Cond.code yX4_requireYard cX4_requireYard 1 none, Cond.methodLink RX4 297 yX4_isYard, Cond.static yX4_isYard, Cond.code yX4_isYard cX4_isYard 1 (some .boolean), Cond.methodLink RX4 136 yX3_ongoing, Cond.instanceMethod yX3_ongoing, Cond.selects RX3 yX3_ongoing yX3_ongoing]
def wsL_call_r2 : List Cond := [Cond.initialized RX3, Cond.code yX3_ongoing cX3_ongoing 2 (some .int), Cond.fieldLink RX3 27 "TrunkYards$Switchboard" "ongoingCalls" "[I", Cond.methodLink RX4 139 yX3_isFull, Cond.instanceMethod yX3_isFull, Cond.selects RX3 yX3_isFull yX3_isFull, Cond.code yX3_isFull cX3_isFull 1 (some .boolean), Cond.fieldLink RX3 42 "TrunkYards$Switchboard" "begun" "I", Cond.methodLink RX4 145 yX3_begin, Cond.instanceMethod yX3_begin, Cond.selects RX3 yX3_begin yX3_begin, Cond.code yX3_begin cX3_begin 8 (some .int), Cond.fieldLink RX3 33 "TrunkYards$Switchboard" "lineCounts" "[I", Cond.methodLink RX3 46 yX3_callsTo, Cond.instanceMethod yX3_callsTo, Cond.selects RX3 yX3_callsTo yX3_callsTo, Cond.code yX3_callsTo cX3_callsTo 5 (some .int), Cond.fieldLink RX3 15 "TrunkYards$Switchboard" "yards" "[I", Cond.methodLink RX3 50 yX3_connect, Cond.instanceMethod yX3_connect, Cond.selects RX3 yX3_connect yX3_connect, Cond.code yX3_connect cX3_connect 6 (some .int), Cond.fieldLink RX3 9 "TrunkYards$Switchboard" "customers" "[I", Cond.fieldLink RX3 18 "TrunkYards$Switchboard" "openBookings" "[I"]
def wsL_call_r3 : List Cond := [Cond.fieldLink RX3 21 "TrunkYards$Switchboard" "firstTrunks" "[I", Cond.fieldLink RX3 24 "TrunkYards$Switchboard" "secondTrunks" "[I", Cond.methodLink RX3 58 yX3_occupy, Cond.instanceMethod yX3_occupy, Cond.selects RX3 yX3_occupy yX3_occupy, Cond.code yX3_occupy cX3_occupy 3 none, Cond.fieldLink RX3 30 "TrunkYards$Switchboard" "trunks" "[I", Cond.methodLink RX3 54 yX3_freeTrunk, Cond.instanceMethod yX3_freeTrunk, Cond.selects RX3 yX3_freeTrunk yX3_freeTrunk, Cond.code yX3_freeTrunk cX3_freeTrunk 5 (some .int), Cond.static yX4_slotOf, Cond.code yX4_slotOf cX4_slotOf 3 (some .int)]
def wsL_call : List Cond := .codeWith yL_call cL_call 5 (some .int) [(0, 10, 13, 13), (0, 10, 17, 15)] :: ((wsL_call_r1 ++ (wsL_call_r2 ++ wsL_call_r3)) ++ wsX40 ++ wsX30 ++ (vx_atS RX4 77 "java/lang/IllegalStateException" ["java/lang/RuntimeException", "java/lang/Exception"]).filter goodWord ++ (vx_atS RX4 90 "java/lang/IllegalArgumentException" ["java/lang/RuntimeException", "java/lang/Exception"]).filter goodWord)
def wsL_ask_r1 : List Cond := [Cond.classLink RL 36 "java/lang/IndexOutOfBoundsException", Cond.methodLink RL 53 yX4_ask, Cond.instanceMethod yX4_ask, Cond.selects RX4 yX4_ask yX4_ask, Cond.initialized RX4, Cond.code yX4_ask cX4_ask 5 (some .int), Cond.classLink RX4 86 "java/lang/IllegalArgumentException", Cond.initialized "java/lang/IllegalArgumentException", Cond.classLink RX4 73 "java/lang/IllegalStateException", Cond.initialized "java/lang/IllegalStateException", Cond.fieldLink RX4 36 "TrunkYards" "board" "LTrunkYards$Switchboard;", Cond.fieldLink RX4 29 "TrunkYards" "ledger" "LTrunkYards$Ledger;", Cond.methodLink RX4 151 yX4_requireCall, Cond.instanceMethod yX4_requireCall, Cond.selects RX4 yX4_requireCall yX4_requireCall, Cond.code yX4_requireCall cX4_requireCall 2 none, Cond.classLink RX4 261 "java/lang/IndexOutOfBoundsException", Cond.initialized "java/lang/IndexOutOfBoundsException", Cond.methodLink RX4 313 yX3_hasBegun, Cond.instanceMethod yX3_hasBegun, Cond.selects RX3 yX3_hasBegun yX3_hasBegun, Cond.initialized RX3, Cond.code yX3_hasBegun cX3_hasBegun 2 (some .boolean), Cond.fieldLink RX3 42 "TrunkYards$Switchboard" "begun" "I"]
def wsL_ask_r2 : List Cond := [Cond.methodLink RX4 110 yX4_isGrain, Cond.static yX4_isGrain, Cond.code yX4_isGrain cX4_isGrain 1 (some .boolean), Cond.methodLink RX4 156 yX4_requireOngoing, Cond.instanceMethod yX4_requireOngoing, Cond.selects RX4 yX4_requireOngoing yX4_requireOngoing, Cond.code yX4_requireOngoing cX4_requireOngoing 2 none, Cond.methodLink RX4 318 yX3_goesOn, Cond.instanceMethod yX3_goesOn, Cond.selects RX3 yX3_goesOn yX3_goesOn, Cond.code yX3_goesOn cX3_goesOn 2 (some .boolean), Cond.fieldLink RX3 27 "TrunkYards$Switchboard" "ongoingCalls" "[I", Cond.fieldLink RX3 9 "TrunkYards$Switchboard" "customers" "[I", Cond.methodLink RX4 159 yX3_openBooking, Cond.instanceMethod yX3_openBooking, Cond.selects RX3 yX3_openBooking yX3_openBooking, Cond.code yX3_openBooking cX3_openBooking 2 (some .int), Cond.fieldLink RX3 18 "TrunkYards$Switchboard" "openBookings" "[I", Cond.methodLink RX4 162 yX1_isFull, Cond.instanceMethod yX1_isFull, Cond.selects RX1 yX1_isFull yX1_isFull, Cond.initialized RX1, Cond.code yX1_isFull cX1_isFull 1 (some .boolean), Cond.fieldLink RX1 42 "TrunkYards$Ledger" "count" "I"]
def wsL_ask_r3 : List Cond := [Cond.methodLink RX4 163 yX1_grain, Cond.instanceMethod yX1_grain, Cond.selects RX1 yX1_grain yX1_grain, Cond.code yX1_grain cX1_grain 2 (some .int), Cond.fieldLink RX1 18 "TrunkYards$Ledger" "grains" "[I", Cond.methodLink RX4 168 yX3_yard, Cond.instanceMethod yX3_yard, Cond.selects RX3 yX3_yard yX3_yard, Cond.code yX3_yard cX3_yard 2 (some .int), Cond.fieldLink RX3 15 "TrunkYards$Switchboard" "yards" "[I", Cond.methodLink RX4 171 yX4_findWagon, Cond.instanceMethod yX4_findWagon, Cond.selects RX4 yX4_findWagon yX4_findWagon, Cond.code yX4_findWagon cX4_findWagon 8 (some .int), Cond.fieldLink RX4 12 "TrunkYards" "rows" "LTrunkYards$Rows;", Cond.methodLink RX4 61 yX4_rowOf, Cond.static yX4_rowOf, Cond.code yX4_rowOf cX4_rowOf 2 (some .int), Cond.methodLink RX4 91 yX2_count, Cond.instanceMethod yX2_count, Cond.selects RX2 yX2_count yX2_count, Cond.initialized RX2, Cond.code yX2_count cX2_count 2 (some .int), Cond.fieldLink RX2 9 "TrunkYards$Rows" "counts" "[I"]
def wsL_ask_r4 : List Cond := [Cond.methodLink RX4 107 yX2_get, Cond.instanceMethod yX2_get, Cond.selects RX2 yX2_get yX2_get, Cond.code yX2_get cX2_get 3 (some .int), Cond.fieldLink RX2 15 "TrunkYards$Rows" "standing" "[I", Cond.methodLink RX4 130 yX1_bookingFor, Cond.instanceMethod yX1_bookingFor, Cond.selects RX1 yX1_bookingFor yX1_bookingFor, Cond.code yX1_bookingFor cX1_bookingFor 2 (some .int), Cond.fieldLink RX1 33 "TrunkYards$Ledger" "bookingOfWagon" "[I", Cond.methodLink RX4 333 yX4_fits, Cond.instanceMethod yX4_fits, Cond.selects RX4 yX4_fits yX4_fits, Cond.code yX4_fits cX4_fits 4 (some .boolean), Cond.fieldLink RX4 40 "TrunkYards" "lastGrain" "[I", Cond.fieldLink RX4 50 "TrunkYards" "mayFollow" "[Z", Cond.methodLink RX4 174 yX3_customer, Cond.instanceMethod yX3_customer, Cond.selects RX3 yX3_customer yX3_customer, Cond.code yX3_customer cX3_customer 2 (some .int), Cond.methodLink RX4 177 yX1_open, Cond.instanceMethod yX1_open, Cond.selects RX1 yX1_open yX1_open, Cond.code yX1_open cX1_open 5 (some .int)]
def wsL_ask_r5 : List Cond := [Cond.fieldLink RX1 9 "TrunkYards$Ledger" "customers" "[I", Cond.fieldLink RX1 15 "TrunkYards$Ledger" "yards" "[I", Cond.fieldLink RX1 21 "TrunkYards$Ledger" "standings" "[I", Cond.methodLink RX4 181 yX3_setOpenBooking, Cond.instanceMethod yX3_setOpenBooking, Cond.selects RX3 yX3_setOpenBooking yX3_setOpenBooking, Cond.code yX3_setOpenBooking cX3_setOpenBooking 3 none, Cond.methodLink RX4 184 yX1_add, Cond.instanceMethod yX1_add, Cond.selects RX1 yX1_add yX1_add, Cond.code yX1_add cX1_add 3 none, Cond.fieldLink RX1 30 "TrunkYards$Ledger" "booked" "[I", Cond.fieldLink RX1 27 "TrunkYards$Ledger" "sizes" "[I"]
def wsL_ask : List Cond := .codeWith yL_ask cL_ask 5 (some .int) [(0, 10, 13, 36), (0, 10, 17, 13), (0, 10, 21, 15)] :: ((wsL_ask_r1 ++ (wsL_ask_r2 ++ (wsL_ask_r3 ++ (wsL_ask_r4 ++ wsL_ask_r5)))) ++ wsX40 ++ wsX30 ++ wsX10 ++ wsX20 ++ (vx_atS RX4 90 "java/lang/IllegalArgumentException" ["java/lang/RuntimeException", "java/lang/Exception"]).filter goodWord ++ (vx_atS RX4 77 "java/lang/IllegalStateException" ["java/lang/RuntimeException", "java/lang/Exception"]).filter goodWord ++ (vx_atS RX4 265 "java/lang/IndexOutOfBoundsException" ["java/lang/RuntimeException", "java/lang/Exception"]).filter goodWord)
def wsL_confirm_r1 : List Cond := [Cond.classLink RL 36 "java/lang/IndexOutOfBoundsException", Cond.methodLink RL 56 yX4_confirm, Cond.instanceMethod yX4_confirm, Cond.selects RX4 yX4_confirm yX4_confirm, Cond.initialized RX4, Cond.code yX4_confirm cX4_confirm 3 (some .int), Cond.classLink RX4 73 "java/lang/IllegalStateException", Cond.initialized "java/lang/IllegalStateException", Cond.fieldLink RX4 36 "TrunkYards" "board" "LTrunkYards$Switchboard;", Cond.fieldLink RX4 29 "TrunkYards" "ledger" "LTrunkYards$Ledger;", Cond.methodLink RX4 151 yX4_requireCall, Cond.instanceMethod yX4_requireCall, Cond.selects RX4 yX4_requireCall yX4_requireCall, Cond.code yX4_requireCall cX4_requireCall 2 none, Cond.classLink RX4 261 "java/lang/IndexOutOfBoundsException", Cond.initialized "java/lang/IndexOutOfBoundsException", Cond.methodLink RX4 313 yX3_hasBegun, Cond.instanceMethod yX3_hasBegun, Cond.selects RX3 yX3_hasBegun yX3_hasBegun, Cond.initialized RX3, Cond.code yX3_hasBegun cX3_hasBegun 2 (some .boolean), Cond.fieldLink RX3 42 "TrunkYards$Switchboard" "begun" "I", Cond.methodLink RX4 156 yX4_requireOngoing, Cond.instanceMethod yX4_requireOngoing]
def wsL_confirm_r2 : List Cond := [Cond.selects RX4 yX4_requireOngoing yX4_requireOngoing, Cond.code yX4_requireOngoing cX4_requireOngoing 2 none, Cond.methodLink RX4 318 yX3_goesOn, Cond.instanceMethod yX3_goesOn, Cond.selects RX3 yX3_goesOn yX3_goesOn, Cond.code yX3_goesOn cX3_goesOn 2 (some .boolean), Cond.fieldLink RX3 27 "TrunkYards$Switchboard" "ongoingCalls" "[I", Cond.fieldLink RX3 9 "TrunkYards$Switchboard" "customers" "[I", Cond.methodLink RX4 159 yX3_openBooking, Cond.instanceMethod yX3_openBooking, Cond.selects RX3 yX3_openBooking yX3_openBooking, Cond.code yX3_openBooking cX3_openBooking 2 (some .int), Cond.fieldLink RX3 18 "TrunkYards$Switchboard" "openBookings" "[I", Cond.methodLink RX4 189 yX1_keep, Cond.instanceMethod yX1_keep, Cond.selects RX1 yX1_keep yX1_keep, Cond.initialized RX1, Cond.code yX1_keep cX1_keep 3 none, Cond.fieldLink RX1 21 "TrunkYards$Ledger" "standings" "[I", Cond.methodLink RX4 181 yX3_setOpenBooking, Cond.instanceMethod yX3_setOpenBooking, Cond.selects RX3 yX3_setOpenBooking yX3_setOpenBooking, Cond.code yX3_setOpenBooking cX3_setOpenBooking 3 none]
def wsL_confirm : List Cond := .codeWith yL_confirm cL_confirm 4 (some .int) [(0, 9, 12, 36), (0, 9, 15, 15)] :: ((wsL_confirm_r1 ++ wsL_confirm_r2) ++ wsX40 ++ wsX30 ++ wsX10 ++ (vx_atS RX4 77 "java/lang/IllegalStateException" ["java/lang/RuntimeException", "java/lang/Exception"]).filter goodWord ++ (vx_atS RX4 265 "java/lang/IndexOutOfBoundsException" ["java/lang/RuntimeException", "java/lang/Exception"]).filter goodWord)
def wsL_resume_r1 : List Cond := [Cond.classLink RL 36 "java/lang/IndexOutOfBoundsException", Cond.methodLink RL 59 yX4_resume, Cond.instanceMethod yX4_resume, Cond.selects RX4 yX4_resume yX4_resume, Cond.initialized RX4, Cond.code yX4_resume cX4_resume 3 (some .int), Cond.classLink RX4 73 "java/lang/IllegalStateException", Cond.initialized "java/lang/IllegalStateException", Cond.fieldLink RX4 36 "TrunkYards" "board" "LTrunkYards$Switchboard;", Cond.fieldLink RX4 29 "TrunkYards" "ledger" "LTrunkYards$Ledger;", Cond.methodLink RX4 151 yX4_requireCall, Cond.instanceMethod yX4_requireCall, Cond.selects RX4 yX4_requireCall yX4_requireCall, Cond.code yX4_requireCall cX4_requireCall 2 none, Cond.classLink RX4 261 "java/lang/IndexOutOfBoundsException", Cond.initialized "java/lang/IndexOutOfBoundsException", Cond.methodLink RX4 313 yX3_hasBegun, Cond.instanceMethod yX3_hasBegun, Cond.selects RX3 yX3_hasBegun yX3_hasBegun, Cond.initialized RX3, Cond.code yX3_hasBegun cX3_hasBegun 2 (some .boolean), Cond.fieldLink RX3 42 "TrunkYards$Switchboard" "begun" "I", Cond.methodLink RX4 192 yX4_requireBooking, Cond.instanceMethod yX4_requireBooking]
def wsL_resume_r2 : List Cond := [Cond.selects RX4 yX4_requireBooking yX4_requireBooking, Cond.code yX4_requireBooking cX4_requireBooking 2 none, Cond.methodLink RX4 254 yX1_opened, Cond.instanceMethod yX1_opened, Cond.selects RX1 yX1_opened yX1_opened, Cond.initialized RX1, Cond.code yX1_opened cX1_opened 1 (some .int), Cond.fieldLink RX1 42 "TrunkYards$Ledger" "count" "I", Cond.methodLink RX4 156 yX4_requireOngoing, Cond.instanceMethod yX4_requireOngoing, Cond.selects RX4 yX4_requireOngoing yX4_requireOngoing, Cond.code yX4_requireOngoing cX4_requireOngoing 2 none, Cond.methodLink RX4 318 yX3_goesOn, Cond.instanceMethod yX3_goesOn, Cond.selects RX3 yX3_goesOn yX3_goesOn, Cond.code yX3_goesOn cX3_goesOn 2 (some .boolean), Cond.fieldLink RX3 27 "TrunkYards$Switchboard" "ongoingCalls" "[I", Cond.fieldLink RX3 9 "TrunkYards$Switchboard" "customers" "[I", Cond.methodLink RX4 159 yX3_openBooking, Cond.instanceMethod yX3_openBooking, Cond.selects RX3 yX3_openBooking yX3_openBooking, Cond.code yX3_openBooking cX3_openBooking 2 (some .int), Cond.fieldLink RX3 18 "TrunkYards$Switchboard" "openBookings" "[I", Cond.methodLink RX4 195 yX4_isWithin]
def wsL_resume_r3 : List Cond := [Cond.instanceMethod yX4_isWithin, Cond.selects RX4 yX4_isWithin yX4_isWithin, Cond.code yX4_isWithin cX4_isWithin 4 (some .boolean), Cond.methodLink RX4 258 yX1_standing, Cond.instanceMethod yX1_standing, Cond.selects RX1 yX1_standing yX1_standing, Cond.code yX1_standing cX1_standing 2 (some .int), Cond.fieldLink RX1 21 "TrunkYards$Ledger" "standings" "[I", Cond.methodLink RX4 336 yX1_customer, Cond.instanceMethod yX1_customer, Cond.selects RX1 yX1_customer yX1_customer, Cond.code yX1_customer cX1_customer 2 (some .int), Cond.fieldLink RX1 9 "TrunkYards$Ledger" "customers" "[I", Cond.methodLink RX4 174 yX3_customer, Cond.instanceMethod yX3_customer, Cond.selects RX3 yX3_customer yX3_customer, Cond.code yX3_customer cX3_customer 2 (some .int), Cond.methodLink RX4 337 yX1_yard, Cond.instanceMethod yX1_yard, Cond.selects RX1 yX1_yard yX1_yard, Cond.code yX1_yard cX1_yard 2 (some .int), Cond.fieldLink RX1 15 "TrunkYards$Ledger" "yards" "[I", Cond.methodLink RX4 168 yX3_yard, Cond.instanceMethod yX3_yard]
def wsL_resume_r4 : List Cond := [Cond.selects RX3 yX3_yard yX3_yard, Cond.code yX3_yard cX3_yard 2 (some .int), Cond.fieldLink RX3 15 "TrunkYards$Switchboard" "yards" "[I", Cond.methodLink RX4 189 yX1_keep, Cond.instanceMethod yX1_keep, Cond.selects RX1 yX1_keep yX1_keep, Cond.code yX1_keep cX1_keep 3 none, Cond.methodLink RX4 181 yX3_setOpenBooking, Cond.instanceMethod yX3_setOpenBooking, Cond.selects RX3 yX3_setOpenBooking yX3_setOpenBooking, Cond.code yX3_setOpenBooking cX3_setOpenBooking 3 none, Cond.methodLink RX4 201 yX1_size, Cond.instanceMethod yX1_size, Cond.selects RX1 yX1_size yX1_size, Cond.code yX1_size cX1_size 2 (some .int), Cond.fieldLink RX1 27 "TrunkYards$Ledger" "sizes" "[I"]
def wsL_resume : List Cond := .codeWith yL_resume cL_resume 5 (some .int) [(0, 10, 13, 36), (0, 10, 17, 15)] :: ((wsL_resume_r1 ++ (wsL_resume_r2 ++ (wsL_resume_r3 ++ wsL_resume_r4))) ++ wsX40 ++ wsX30 ++ wsX10 ++ (vx_atS RX4 77 "java/lang/IllegalStateException" ["java/lang/RuntimeException", "java/lang/Exception"]).filter goodWord ++ (vx_atS RX4 265 "java/lang/IndexOutOfBoundsException" ["java/lang/RuntimeException", "java/lang/Exception"]).filter goodWord)
def wsL_cancel_r1 : List Cond := [Cond.classLink RL 36 "java/lang/IndexOutOfBoundsException", Cond.methodLink RL 62 yX4_cancel, Cond.instanceMethod yX4_cancel, Cond.selects RX4 yX4_cancel yX4_cancel, Cond.initialized RX4, Cond.code yX4_cancel cX4_cancel 3 (some .int), Cond.classLink RX4 73 "java/lang/IllegalStateException", Cond.initialized "java/lang/IllegalStateException", Cond.fieldLink RX4 29 "TrunkYards" "ledger" "LTrunkYards$Ledger;", Cond.methodLink RX4 151 yX4_requireCall, Cond.instanceMethod yX4_requireCall, Cond.selects RX4 yX4_requireCall yX4_requireCall, Cond.code yX4_requireCall cX4_requireCall 2 none, Cond.classLink RX4 261 "java/lang/IndexOutOfBoundsException", Cond.initialized "java/lang/IndexOutOfBoundsException", Cond.fieldLink RX4 36 "TrunkYards" "board" "LTrunkYards$Switchboard;", Cond.methodLink RX4 313 yX3_hasBegun, Cond.instanceMethod yX3_hasBegun, Cond.selects RX3 yX3_hasBegun yX3_hasBegun, Cond.initialized RX3, Cond.code yX3_hasBegun cX3_hasBegun 2 (some .boolean), Cond.fieldLink RX3 42 "TrunkYards$Switchboard" "begun" "I", Cond.methodLink RX4 192 yX4_requireBooking, Cond.instanceMethod yX4_requireBooking]
def wsL_cancel_r2 : List Cond := [Cond.selects RX4 yX4_requireBooking yX4_requireBooking, Cond.code yX4_requireBooking cX4_requireBooking 2 none, Cond.methodLink RX4 254 yX1_opened, Cond.instanceMethod yX1_opened, Cond.selects RX1 yX1_opened yX1_opened, Cond.initialized RX1, Cond.code yX1_opened cX1_opened 1 (some .int), Cond.fieldLink RX1 42 "TrunkYards$Ledger" "count" "I", Cond.methodLink RX4 156 yX4_requireOngoing, Cond.instanceMethod yX4_requireOngoing, Cond.selects RX4 yX4_requireOngoing yX4_requireOngoing, Cond.code yX4_requireOngoing cX4_requireOngoing 2 none, Cond.methodLink RX4 318 yX3_goesOn, Cond.instanceMethod yX3_goesOn, Cond.selects RX3 yX3_goesOn yX3_goesOn, Cond.code yX3_goesOn cX3_goesOn 2 (some .boolean), Cond.fieldLink RX3 27 "TrunkYards$Switchboard" "ongoingCalls" "[I", Cond.fieldLink RX3 9 "TrunkYards$Switchboard" "customers" "[I", Cond.methodLink RX4 195 yX4_isWithin, Cond.instanceMethod yX4_isWithin, Cond.selects RX4 yX4_isWithin yX4_isWithin, Cond.code yX4_isWithin cX4_isWithin 4 (some .boolean), Cond.methodLink RX4 258 yX1_standing, Cond.instanceMethod yX1_standing]
def wsL_cancel_r3 : List Cond := [Cond.selects RX1 yX1_standing yX1_standing, Cond.code yX1_standing cX1_standing 2 (some .int), Cond.fieldLink RX1 21 "TrunkYards$Ledger" "standings" "[I", Cond.methodLink RX4 336 yX1_customer, Cond.instanceMethod yX1_customer, Cond.selects RX1 yX1_customer yX1_customer, Cond.code yX1_customer cX1_customer 2 (some .int), Cond.fieldLink RX1 9 "TrunkYards$Ledger" "customers" "[I", Cond.methodLink RX4 174 yX3_customer, Cond.instanceMethod yX3_customer, Cond.selects RX3 yX3_customer yX3_customer, Cond.code yX3_customer cX3_customer 2 (some .int), Cond.methodLink RX4 337 yX1_yard, Cond.instanceMethod yX1_yard, Cond.selects RX1 yX1_yard yX1_yard, Cond.code yX1_yard cX1_yard 2 (some .int), Cond.fieldLink RX1 15 "TrunkYards$Ledger" "yards" "[I", Cond.methodLink RX4 168 yX3_yard, Cond.instanceMethod yX3_yard, Cond.selects RX3 yX3_yard yX3_yard, Cond.code yX3_yard cX3_yard 2 (some .int), Cond.fieldLink RX3 15 "TrunkYards$Switchboard" "yards" "[I", Cond.methodLink RX4 206 yX1_release, Cond.instanceMethod yX1_release]
def wsL_cancel_r4 : List Cond := [Cond.selects RX1 yX1_release yX1_release, Cond.code yX1_release cX1_release 4 none, Cond.fieldLink RX1 27 "TrunkYards$Ledger" "sizes" "[I", Cond.fieldLink RX1 33 "TrunkYards$Ledger" "bookingOfWagon" "[I", Cond.methodLink RX1 46 yX1_get, Cond.instanceMethod yX1_get, Cond.selects RX1 yX1_get yX1_get, Cond.code yX1_get cX1_get 3 (some .int), Cond.fieldLink RX1 30 "TrunkYards$Ledger" "booked" "[I", Cond.methodLink RX4 201 yX1_size, Cond.instanceMethod yX1_size, Cond.selects RX1 yX1_size yX1_size, Cond.code yX1_size cX1_size 2 (some .int)]
def wsL_cancel : List Cond := .codeWith yL_cancel cL_cancel 5 (some .int) [(0, 10, 13, 36), (0, 10, 17, 15)] :: ((wsL_cancel_r1 ++ (wsL_cancel_r2 ++ (wsL_cancel_r3 ++ wsL_cancel_r4))) ++ wsX40 ++ wsX30 ++ wsX10 ++ (vx_atS RX4 77 "java/lang/IllegalStateException" ["java/lang/RuntimeException", "java/lang/Exception"]).filter goodWord ++ (vx_atS RX4 265 "java/lang/IndexOutOfBoundsException" ["java/lang/RuntimeException", "java/lang/Exception"]).filter goodWord)
def wsL_hangUp_r1 : List Cond := [Cond.classLink RL 36 "java/lang/IndexOutOfBoundsException", Cond.methodLink RL 65 yX4_hangUp, Cond.instanceMethod yX4_hangUp, Cond.selects RX4 yX4_hangUp yX4_hangUp, Cond.initialized RX4, Cond.code yX4_hangUp cX4_hangUp 3 (some .int), Cond.fieldLink RX4 36 "TrunkYards" "board" "LTrunkYards$Switchboard;", Cond.fieldLink RX4 29 "TrunkYards" "ledger" "LTrunkYards$Ledger;", Cond.methodLink RX4 151 yX4_requireCall, Cond.instanceMethod yX4_requireCall, Cond.selects RX4 yX4_requireCall yX4_requireCall, Cond.code yX4_requireCall cX4_requireCall 2 none, Cond.classLink RX4 261 "java/lang/IndexOutOfBoundsException", Cond.initialized "java/lang/IndexOutOfBoundsException", Cond.methodLink RX4 313 yX3_hasBegun, Cond.instanceMethod yX3_hasBegun, Cond.selects RX3 yX3_hasBegun yX3_hasBegun, Cond.initialized RX3, Cond.code yX3_hasBegun cX3_hasBegun 2 (some .boolean), Cond.fieldLink RX3 42 "TrunkYards$Switchboard" "begun" "I", Cond.methodLink RX4 156 yX4_requireOngoing, Cond.instanceMethod yX4_requireOngoing, Cond.selects RX4 yX4_requireOngoing yX4_requireOngoing, Cond.code yX4_requireOngoing cX4_requireOngoing 2 none]
def wsL_hangUp_r2 : List Cond := [Cond.classLink RX4 73 "java/lang/IllegalStateException", Cond.initialized "java/lang/IllegalStateException", Cond.methodLink RX4 318 yX3_goesOn, Cond.instanceMethod yX3_goesOn, Cond.selects RX3 yX3_goesOn yX3_goesOn, Cond.code yX3_goesOn cX3_goesOn 2 (some .boolean), Cond.fieldLink RX3 27 "TrunkYards$Switchboard" "ongoingCalls" "[I", Cond.fieldLink RX3 9 "TrunkYards$Switchboard" "customers" "[I", Cond.methodLink RX4 159 yX3_openBooking, Cond.instanceMethod yX3_openBooking, Cond.selects RX3 yX3_openBooking yX3_openBooking, Cond.code yX3_openBooking cX3_openBooking 2 (some .int), Cond.fieldLink RX3 18 "TrunkYards$Switchboard" "openBookings" "[I", Cond.methodLink RX4 209 yX3_end, Cond.instanceMethod yX3_end, Cond.selects RX3 yX3_end yX3_end, Cond.code yX3_end cX3_end 2 none, Cond.fieldLink RX3 21 "TrunkYards$Switchboard" "firstTrunks" "[I", Cond.fieldLink RX3 24 "TrunkYards$Switchboard" "secondTrunks" "[I", Cond.methodLink RX3 58 yX3_occupy, Cond.instanceMethod yX3_occupy, Cond.selects RX3 yX3_occupy yX3_occupy, Cond.code yX3_occupy cX3_occupy 3 none, Cond.fieldLink RX3 30 "TrunkYards$Switchboard" "trunks" "[I"]
def wsL_hangUp_r3 : List Cond := [Cond.methodLink RX4 206 yX1_release, Cond.instanceMethod yX1_release, Cond.selects RX1 yX1_release yX1_release, Cond.initialized RX1, Cond.code yX1_release cX1_release 4 none, Cond.fieldLink RX1 21 "TrunkYards$Ledger" "standings" "[I", Cond.fieldLink RX1 27 "TrunkYards$Ledger" "sizes" "[I", Cond.fieldLink RX1 33 "TrunkYards$Ledger" "bookingOfWagon" "[I", Cond.methodLink RX1 46 yX1_get, Cond.instanceMethod yX1_get, Cond.selects RX1 yX1_get yX1_get, Cond.code yX1_get cX1_get 3 (some .int), Cond.fieldLink RX1 30 "TrunkYards$Ledger" "booked" "[I", Cond.methodLink RX4 201 yX1_size, Cond.instanceMethod yX1_size, Cond.selects RX1 yX1_size yX1_size, Cond.code yX1_size cX1_size 2 (some .int)]
def wsL_hangUp : List Cond := .codeWith yL_hangUp cL_hangUp 4 (some .int) [(0, 9, 12, 36), (0, 9, 15, 15)] :: ((wsL_hangUp_r1 ++ (wsL_hangUp_r2 ++ wsL_hangUp_r3)) ++ wsX40 ++ wsX30 ++ wsX10 ++ (vx_atS RX4 265 "java/lang/IndexOutOfBoundsException" ["java/lang/RuntimeException", "java/lang/Exception"]).filter goodWord ++ (vx_atS RX4 77 "java/lang/IllegalStateException" ["java/lang/RuntimeException", "java/lang/Exception"]).filter goodWord)
def wsL_callOf : List Cond := .codeWith yL_callOf cL_callOf 4 (some .int) [(0, 9, 12, 13)] :: ([.classLink RL 13 "java/lang/IllegalArgumentException", .methodLink RL 68 yX4_callOf, .instanceMethod yX4_callOf, .selects RX4 yX4_callOf yX4_callOf, .initialized RX4, .code yX4_callOf cX4_callOf 2 (some .int), .fieldLink RX4 36 "TrunkYards" "board" "LTrunkYards$Switchboard;", .methodLink RX4 133 yX4_requireCustomer, .static yX4_requireCustomer, .code yX4_requireCustomer cX4_requireCustomer 1 none, .classLink RX4 86 "java/lang/IllegalArgumentException", .initialized "java/lang/IllegalArgumentException", .methodLink RX4 136 yX3_ongoing, .instanceMethod yX3_ongoing, .selects RX3 yX3_ongoing yX3_ongoing, .initialized RX3, .code yX3_ongoing cX3_ongoing 2 (some .int), .fieldLink RX3 27 "TrunkYards$Switchboard" "ongoingCalls" "[I"] ++ wsX40 ++ wsX30 ++ (vx_atS RX4 90 "java/lang/IllegalArgumentException" ["java/lang/RuntimeException", "java/lang/Exception"]).filter goodWord)
def wsL_way_r1 : List Cond := [Cond.classLink RL 36 "java/lang/IndexOutOfBoundsException", Cond.methodLink RL 71 yX4_way, Cond.instanceMethod yX4_way, Cond.selects RX4 yX4_way yX4_way, Cond.initialized RX4, Cond.code yX4_way cX4_way 2 (some .int), Cond.fieldLink RX4 36 "TrunkYards" "board" "LTrunkYards$Switchboard;", Cond.methodLink RX4 151 yX4_requireCall, Cond.instanceMethod yX4_requireCall, Cond.selects RX4 yX4_requireCall yX4_requireCall, Cond.code yX4_requireCall cX4_requireCall 2 none, Cond.classLink RX4 261 "java/lang/IndexOutOfBoundsException", Cond.initialized "java/lang/IndexOutOfBoundsException", Cond.methodLink RX4 313 yX3_hasBegun, Cond.instanceMethod yX3_hasBegun, Cond.selects RX3 yX3_hasBegun yX3_hasBegun, Cond.initialized RX3, Cond.code yX3_hasBegun cX3_hasBegun 2 (some .boolean), Cond.fieldLink RX3 42 "TrunkYards$Switchboard" "begun" "I", Cond.methodLink RX4 156 yX4_requireOngoing, Cond.instanceMethod yX4_requireOngoing, Cond.selects RX4 yX4_requireOngoing yX4_requireOngoing, Cond.code yX4_requireOngoing cX4_requireOngoing 2 none, Cond.classLink RX4 73 "java/lang/IllegalStateException"]
def wsL_way_r2 : List Cond := [Cond.initialized "java/lang/IllegalStateException", Cond.methodLink RX4 318 yX3_goesOn, Cond.instanceMethod yX3_goesOn, Cond.selects RX3 yX3_goesOn yX3_goesOn, Cond.code yX3_goesOn cX3_goesOn 2 (some .boolean), Cond.fieldLink RX3 27 "TrunkYards$Switchboard" "ongoingCalls" "[I", Cond.fieldLink RX3 9 "TrunkYards$Switchboard" "customers" "[I", Cond.methodLink RX4 212 yX3_trunksOf, Cond.instanceMethod yX3_trunksOf, Cond.selects RX3 yX3_trunksOf yX3_trunksOf, Cond.code yX3_trunksOf cX3_trunksOf 2 (some .int), Cond.fieldLink RX3 21 "TrunkYards$Switchboard" "firstTrunks" "[I", Cond.fieldLink RX3 24 "TrunkYards$Switchboard" "secondTrunks" "[I"]
def wsL_way : List Cond := .codeWith yL_way cL_way 4 (some .int) [(0, 9, 12, 36), (0, 9, 15, 15)] :: ((wsL_way_r1 ++ wsL_way_r2) ++ wsX40 ++ wsX30 ++ (vx_atS RX4 265 "java/lang/IndexOutOfBoundsException" ["java/lang/RuntimeException", "java/lang/Exception"]).filter goodWord ++ (vx_atS RX4 77 "java/lang/IllegalStateException" ["java/lang/RuntimeException", "java/lang/Exception"]).filter goodWord)
def wsL_cut_r1 : List Cond := [Cond.classLink RL 13 "java/lang/IllegalArgumentException", Cond.methodLink RL 74 yX4_cut, Cond.instanceMethod yX4_cut, Cond.selects RX4 yX4_cut yX4_cut, Cond.initialized RX4, Cond.code yX4_cut cX4_cut 6 (some .int), Cond.classLink RX4 73 "java/lang/IllegalStateException", Cond.initialized "java/lang/IllegalStateException", Cond.fieldLink RX4 36 "TrunkYards" "board" "LTrunkYards$Switchboard;", Cond.methodLink RX4 215 yX4_requireTrunk, Cond.static yX4_requireTrunk, Cond.code yX4_requireTrunk cX4_requireTrunk 3 none, Cond.classLink RX4 86 "java/lang/IllegalArgumentException", Cond.initialized "java/lang/IllegalArgumentException", Cond.methodLink RX4 306 yX4_isExchange, Cond.static yX4_isExchange, Cond.code yX4_isExchange cX4_isExchange 1 (some .boolean), Cond.methodLink RX4 218 yX4_slotOf, Cond.static yX4_slotOf, Cond.code yX4_slotOf cX4_slotOf 3 (some .int), Cond.methodLink RX4 221 yX3_trunkHas, Cond.instanceMethod yX3_trunkHas, Cond.selects RX3 yX3_trunkHas yX3_trunkHas, Cond.initialized RX3]
def wsL_cut_r2 : List Cond := [Cond.code yX3_trunkHas cX3_trunkHas 2 (some .int), Cond.fieldLink RX3 30 "TrunkYards$Switchboard" "trunks" "[I", Cond.methodLink RX4 226 yX4_cutOff, Cond.instanceMethod yX4_cutOff, Cond.selects RX4 yX4_cutOff yX4_cutOff, Cond.code yX4_cutOff cX4_cutOff 3 none, Cond.fieldLink RX4 29 "TrunkYards" "ledger" "LTrunkYards$Ledger;", Cond.fieldLink RX4 246 "TrunkYards" "now" "I", Cond.methodLink RX4 159 yX3_openBooking, Cond.instanceMethod yX3_openBooking, Cond.selects RX3 yX3_openBooking yX3_openBooking, Cond.code yX3_openBooking cX3_openBooking 2 (some .int), Cond.fieldLink RX3 18 "TrunkYards$Switchboard" "openBookings" "[I", Cond.methodLink RX4 209 yX3_end, Cond.instanceMethod yX3_end, Cond.selects RX3 yX3_end yX3_end, Cond.code yX3_end cX3_end 2 none, Cond.fieldLink RX3 27 "TrunkYards$Switchboard" "ongoingCalls" "[I", Cond.fieldLink RX3 9 "TrunkYards$Switchboard" "customers" "[I", Cond.fieldLink RX3 21 "TrunkYards$Switchboard" "firstTrunks" "[I", Cond.fieldLink RX3 24 "TrunkYards$Switchboard" "secondTrunks" "[I", Cond.methodLink RX3 58 yX3_occupy, Cond.instanceMethod yX3_occupy, Cond.selects RX3 yX3_occupy yX3_occupy]
def wsL_cut_r3 : List Cond := [Cond.code yX3_occupy cX3_occupy 3 none, Cond.methodLink RX4 338 yX1_halve, Cond.instanceMethod yX1_halve, Cond.selects RX1 yX1_halve yX1_halve, Cond.initialized RX1, Cond.code yX1_halve cX1_halve 3 none, Cond.fieldLink RX1 21 "TrunkYards$Ledger" "standings" "[I", Cond.fieldLink RX1 24 "TrunkYards$Ledger" "lapseTicks" "[I", Cond.methodLink RX4 229 yX3_setTrunk, Cond.instanceMethod yX3_setTrunk, Cond.selects RX3 yX3_setTrunk yX3_setTrunk, Cond.code yX3_setTrunk cX3_setTrunk 3 none]
def wsL_cut : List Cond := .codeWith yL_cut cL_cut 6 (some .int) [(0, 12, 15, 13), (0, 12, 19, 15)] :: ((wsL_cut_r1 ++ (wsL_cut_r2 ++ wsL_cut_r3)) ++ wsX40 ++ wsX30 ++ wsX10 ++ (vx_atS RX4 77 "java/lang/IllegalStateException" ["java/lang/RuntimeException", "java/lang/Exception"]).filter goodWord ++ (vx_atS RX4 90 "java/lang/IllegalArgumentException" ["java/lang/RuntimeException", "java/lang/Exception"]).filter goodWord)
def wsL_mend_r1 : List Cond := [Cond.classLink RL 13 "java/lang/IllegalArgumentException", Cond.methodLink RL 77 yX4_mend, Cond.instanceMethod yX4_mend, Cond.selects RX4 yX4_mend yX4_mend, Cond.initialized RX4, Cond.code yX4_mend cX4_mend 5 none, Cond.classLink RX4 73 "java/lang/IllegalStateException", Cond.initialized "java/lang/IllegalStateException", Cond.fieldLink RX4 36 "TrunkYards" "board" "LTrunkYards$Switchboard;", Cond.methodLink RX4 215 yX4_requireTrunk, Cond.static yX4_requireTrunk, Cond.code yX4_requireTrunk cX4_requireTrunk 3 none, Cond.classLink RX4 86 "java/lang/IllegalArgumentException", Cond.initialized "java/lang/IllegalArgumentException", Cond.methodLink RX4 306 yX4_isExchange, Cond.static yX4_isExchange, Cond.code yX4_isExchange cX4_isExchange 1 (some .boolean), Cond.methodLink RX4 218 yX4_slotOf, Cond.static yX4_slotOf, Cond.code yX4_slotOf cX4_slotOf 3 (some .int), Cond.methodLink RX4 221 yX3_trunkHas, Cond.instanceMethod yX3_trunkHas, Cond.selects RX3 yX3_trunkHas yX3_trunkHas, Cond.initialized RX3]
def wsL_mend_r2 : List Cond := [Cond.code yX3_trunkHas cX3_trunkHas 2 (some .int), Cond.fieldLink RX3 30 "TrunkYards$Switchboard" "trunks" "[I", Cond.methodLink RX4 229 yX3_setTrunk, Cond.instanceMethod yX3_setTrunk, Cond.selects RX3 yX3_setTrunk yX3_setTrunk, Cond.code yX3_setTrunk cX3_setTrunk 3 none]
def wsL_mend : List Cond := .codeWith yL_mend cL_mend 5 (some .int) [(0, 7, 10, 13), (0, 7, 14, 15)] :: ((wsL_mend_r1 ++ wsL_mend_r2) ++ wsX40 ++ wsX30 ++ (vx_atS RX4 77 "java/lang/IllegalStateException" ["java/lang/RuntimeException", "java/lang/Exception"]).filter goodWord ++ (vx_atS RX4 90 "java/lang/IllegalArgumentException" ["java/lang/RuntimeException", "java/lang/Exception"]).filter goodWord)
def wsL_trunk : List Cond := .codeWith yL_trunk cL_trunk 6 (some .int) [(0, 12, 15, 13)] :: ([.classLink RL 13 "java/lang/IllegalArgumentException", .methodLink RL 81 yX4_trunk, .instanceMethod yX4_trunk, .selects RX4 yX4_trunk yX4_trunk, .initialized RX4, .code yX4_trunk cX4_trunk 4 (some .int), .fieldLink RX4 36 "TrunkYards" "board" "LTrunkYards$Switchboard;", .methodLink RX4 215 yX4_requireTrunk, .static yX4_requireTrunk, .code yX4_requireTrunk cX4_requireTrunk 3 none, .classLink RX4 86 "java/lang/IllegalArgumentException", .initialized "java/lang/IllegalArgumentException", .methodLink RX4 306 yX4_isExchange, .static yX4_isExchange, .code yX4_isExchange cX4_isExchange 1 (some .boolean), .methodLink RX4 218 yX4_slotOf, .static yX4_slotOf, .code yX4_slotOf cX4_slotOf 3 (some .int), .methodLink RX4 221 yX3_trunkHas, .instanceMethod yX3_trunkHas, .selects RX3 yX3_trunkHas yX3_trunkHas, .initialized RX3, .code yX3_trunkHas cX3_trunkHas 2 (some .int), .fieldLink RX3 30 "TrunkYards$Switchboard" "trunks" "[I"] ++ wsX40 ++ wsX30 ++ (vx_atS RX4 90 "java/lang/IllegalArgumentException" ["java/lang/RuntimeException", "java/lang/Exception"]).filter goodWord)
def wsL_setLines_r1 : List Cond := [Cond.classLink RL 13 "java/lang/IllegalArgumentException", Cond.methodLink RL 84 yX4_setLines, Cond.instanceMethod yX4_setLines, Cond.selects RX4 yX4_setLines yX4_setLines, Cond.initialized RX4, Cond.code yX4_setLines cX4_setLines 3 (some .int), Cond.classLink RX4 86 "java/lang/IllegalArgumentException", Cond.initialized "java/lang/IllegalArgumentException", Cond.classLink RX4 73 "java/lang/IllegalStateException", Cond.initialized "java/lang/IllegalStateException", Cond.fieldLink RX4 36 "TrunkYards" "board" "LTrunkYards$Switchboard;", Cond.methodLink RX4 101 yX4_requireYard, Cond.static yX4_requireYard, Cond.code yX4_requireYard cX4_requireYard 1 none, Cond.methodLink RX4 297 yX4_isYard, Cond.static yX4_isYard, Cond.code yX4_isYard cX4_isYard 1 (some .boolean), Cond.methodLink RX4 236 yX3_callsTo, Cond.instanceMethod yX3_callsTo, Cond.selects RX3 yX3_callsTo yX3_callsTo, Cond.initialized RX3, Cond.code yX3_callsTo cX3_callsTo 5 (some .int), Cond.fieldLink RX3 27 "TrunkYards$Switchboard" "ongoingCalls" "[I", Cond.fieldLink RX3 15 "TrunkYards$Switchboard" "yards" "[I"]
def wsL_setLines_r2 : List Cond := [Cond.methodLink RX4 241 yX3_changeLines, Cond.instanceMethod yX3_changeLines, Cond.selects RX3 yX3_changeLines yX3_changeLines, Cond.code yX3_changeLines cX3_changeLines 4 (some .int), Cond.fieldLink RX3 33 "TrunkYards$Switchboard" "lineCounts" "[I"]
def wsL_setLines : List Cond := .codeWith yL_setLines cL_setLines 5 (some .int) [(0, 10, 13, 13), (0, 10, 17, 15)] :: ((wsL_setLines_r1 ++ wsL_setLines_r2) ++ wsX40 ++ wsX30 ++ (vx_atS RX4 90 "java/lang/IllegalArgumentException" ["java/lang/RuntimeException", "java/lang/Exception"]).filter goodWord ++ (vx_atS RX4 77 "java/lang/IllegalStateException" ["java/lang/RuntimeException", "java/lang/Exception"]).filter goodWord)
def wsL_pass_r1 : List Cond := [Cond.classLink RL 13 "java/lang/IllegalArgumentException", Cond.methodLink RL 87 yX4_pass, Cond.instanceMethod yX4_pass, Cond.selects RX4 yX4_pass yX4_pass, Cond.initialized RX4, Cond.code yX4_pass cX4_pass 2 (some .int), Cond.classLink RX4 86 "java/lang/IllegalArgumentException", Cond.initialized "java/lang/IllegalArgumentException", Cond.classLink RX4 73 "java/lang/IllegalStateException", Cond.initialized "java/lang/IllegalStateException", Cond.fieldLink RX4 246 "TrunkYards" "now" "I", Cond.fieldLink RX4 29 "TrunkYards" "ledger" "LTrunkYards$Ledger;", Cond.methodLink RX4 251 yX1_lapseAll, Cond.instanceMethod yX1_lapseAll, Cond.selects RX1 yX1_lapseAll yX1_lapseAll, Cond.initialized RX1, Cond.code yX1_lapseAll cX1_lapseAll 4 (some .int), Cond.fieldLink RX1 42 "TrunkYards$Ledger" "count" "I", Cond.fieldLink RX1 21 "TrunkYards$Ledger" "standings" "[I", Cond.fieldLink RX1 24 "TrunkYards$Ledger" "lapseTicks" "[I", Cond.methodLink RX1 50 yX1_release, Cond.instanceMethod yX1_release, Cond.selects RX1 yX1_release yX1_release, Cond.code yX1_release cX1_release 4 none]
def wsL_pass_r2 : List Cond := [Cond.fieldLink RX1 27 "TrunkYards$Ledger" "sizes" "[I", Cond.fieldLink RX1 33 "TrunkYards$Ledger" "bookingOfWagon" "[I", Cond.methodLink RX1 46 yX1_get, Cond.instanceMethod yX1_get, Cond.selects RX1 yX1_get yX1_get, Cond.code yX1_get cX1_get 3 (some .int), Cond.fieldLink RX1 30 "TrunkYards$Ledger" "booked" "[I"]
def wsL_pass : List Cond := .codeWith yL_pass cL_pass 4 (some .int) [(0, 9, 12, 13), (0, 9, 15, 15)] :: ((wsL_pass_r1 ++ wsL_pass_r2) ++ wsX40 ++ wsX10 ++ (vx_atS RX4 90 "java/lang/IllegalArgumentException" ["java/lang/RuntimeException", "java/lang/Exception"]).filter goodWord ++ (vx_atS RX4 77 "java/lang/IllegalStateException" ["java/lang/RuntimeException", "java/lang/Exception"]).filter goodWord)
def wsL_state : List Cond := .codeWith yL_state cL_state 4 (some .int) [(0, 9, 12, 36)] :: ([.classLink RL 36 "java/lang/IndexOutOfBoundsException", .methodLink RL 90 yX4_state, .instanceMethod yX4_state, .selects RX4 yX4_state yX4_state, .initialized RX4, .code yX4_state cX4_state 2 (some .int), .fieldLink RX4 29 "TrunkYards" "ledger" "LTrunkYards$Ledger;", .methodLink RX4 192 yX4_requireBooking, .instanceMethod yX4_requireBooking, .selects RX4 yX4_requireBooking yX4_requireBooking, .code yX4_requireBooking cX4_requireBooking 2 none, .classLink RX4 261 "java/lang/IndexOutOfBoundsException", .initialized "java/lang/IndexOutOfBoundsException", .methodLink RX4 254 yX1_opened, .instanceMethod yX1_opened, .selects RX1 yX1_opened yX1_opened, .initialized RX1, .code yX1_opened cX1_opened 1 (some .int), .fieldLink RX1 42 "TrunkYards$Ledger" "count" "I", .methodLink RX4 258 yX1_standing, .instanceMethod yX1_standing, .selects RX1 yX1_standing yX1_standing, .code yX1_standing cX1_standing 2 (some .int), .fieldLink RX1 21 "TrunkYards$Ledger" "standings" "[I"] ++ wsX40 ++ wsX10 ++ (vx_atS RX4 265 "java/lang/IndexOutOfBoundsException" ["java/lang/RuntimeException", "java/lang/Exception"]).filter goodWord)
def wsL_wagons : List Cond := .codeWith yL_wagons cL_wagons 4 (some .int) [(0, 9, 12, 36)] :: ([.classLink RL 36 "java/lang/IndexOutOfBoundsException", .methodLink RL 93 yX4_wagons, .instanceMethod yX4_wagons, .selects RX4 yX4_wagons yX4_wagons, .initialized RX4, .code yX4_wagons cX4_wagons 2 (some .int), .fieldLink RX4 29 "TrunkYards" "ledger" "LTrunkYards$Ledger;", .methodLink RX4 192 yX4_requireBooking, .instanceMethod yX4_requireBooking, .selects RX4 yX4_requireBooking yX4_requireBooking, .code yX4_requireBooking cX4_requireBooking 2 none, .classLink RX4 261 "java/lang/IndexOutOfBoundsException", .initialized "java/lang/IndexOutOfBoundsException", .methodLink RX4 254 yX1_opened, .instanceMethod yX1_opened, .selects RX1 yX1_opened yX1_opened, .initialized RX1, .code yX1_opened cX1_opened 1 (some .int), .fieldLink RX1 42 "TrunkYards$Ledger" "count" "I", .methodLink RX4 201 yX1_size, .instanceMethod yX1_size, .selects RX1 yX1_size yX1_size, .code yX1_size cX1_size 2 (some .int), .fieldLink RX1 27 "TrunkYards$Ledger" "sizes" "[I"] ++ wsX40 ++ wsX10 ++ (vx_atS RX4 265 "java/lang/IndexOutOfBoundsException" ["java/lang/RuntimeException", "java/lang/Exception"]).filter goodWord)
def wsL_wagonOf_r1 : List Cond := [Cond.classLink RL 36 "java/lang/IndexOutOfBoundsException", Cond.methodLink RL 96 yX4_wagonOf, Cond.instanceMethod yX4_wagonOf, Cond.selects RX4 yX4_wagonOf yX4_wagonOf, Cond.initialized RX4, Cond.code yX4_wagonOf cX4_wagonOf 3 (some .int), Cond.classLink RX4 261 "java/lang/IndexOutOfBoundsException", Cond.initialized "java/lang/IndexOutOfBoundsException", Cond.fieldLink RX4 29 "TrunkYards" "ledger" "LTrunkYards$Ledger;", Cond.methodLink RX4 192 yX4_requireBooking, Cond.instanceMethod yX4_requireBooking, Cond.selects RX4 yX4_requireBooking yX4_requireBooking, Cond.code yX4_requireBooking cX4_requireBooking 2 none, Cond.methodLink RX4 254 yX1_opened, Cond.instanceMethod yX1_opened, Cond.selects RX1 yX1_opened yX1_opened, Cond.initialized RX1, Cond.code yX1_opened cX1_opened 1 (some .int), Cond.fieldLink RX1 42 "TrunkYards$Ledger" "count" "I", Cond.methodLink RX4 201 yX1_size, Cond.instanceMethod yX1_size, Cond.selects RX1 yX1_size yX1_size, Cond.code yX1_size cX1_size 2 (some .int), Cond.fieldLink RX1 27 "TrunkYards$Ledger" "sizes" "[I"]
def wsL_wagonOf_r2 : List Cond := [Cond.methodLink RX4 266 yX1_get, Cond.instanceMethod yX1_get, Cond.selects RX1 yX1_get yX1_get, Cond.code yX1_get cX1_get 3 (some .int), Cond.fieldLink RX1 30 "TrunkYards$Ledger" "booked" "[I"]
def wsL_wagonOf : List Cond := .codeWith yL_wagonOf cL_wagonOf 5 (some .int) [(0, 10, 13, 36)] :: ((wsL_wagonOf_r1 ++ wsL_wagonOf_r2) ++ wsX40 ++ wsX10 ++ (vx_atS RX4 265 "java/lang/IndexOutOfBoundsException" ["java/lang/RuntimeException", "java/lang/Exception"]).filter goodWord)
def wsL_lapses_r1 : List Cond := [Cond.classLink RL 36 "java/lang/IndexOutOfBoundsException", Cond.methodLink RL 99 yX4_lapses, Cond.instanceMethod yX4_lapses, Cond.selects RX4 yX4_lapses yX4_lapses, Cond.initialized RX4, Cond.code yX4_lapses cX4_lapses 2 (some .int), Cond.classLink RX4 73 "java/lang/IllegalStateException", Cond.initialized "java/lang/IllegalStateException", Cond.fieldLink RX4 29 "TrunkYards" "ledger" "LTrunkYards$Ledger;", Cond.fieldLink RX4 246 "TrunkYards" "now" "I", Cond.methodLink RX4 192 yX4_requireBooking, Cond.instanceMethod yX4_requireBooking, Cond.selects RX4 yX4_requireBooking yX4_requireBooking, Cond.code yX4_requireBooking cX4_requireBooking 2 none, Cond.classLink RX4 261 "java/lang/IndexOutOfBoundsException", Cond.initialized "java/lang/IndexOutOfBoundsException", Cond.methodLink RX4 254 yX1_opened, Cond.instanceMethod yX1_opened, Cond.selects RX1 yX1_opened yX1_opened, Cond.initialized RX1, Cond.code yX1_opened cX1_opened 1 (some .int), Cond.fieldLink RX1 42 "TrunkYards$Ledger" "count" "I", Cond.methodLink RX4 258 yX1_standing, Cond.instanceMethod yX1_standing]
def wsL_lapses_r2 : List Cond := [Cond.selects RX1 yX1_standing yX1_standing, Cond.code yX1_standing cX1_standing 2 (some .int), Cond.fieldLink RX1 21 "TrunkYards$Ledger" "standings" "[I", Cond.methodLink RX4 269 yX1_lapseTick, Cond.instanceMethod yX1_lapseTick, Cond.selects RX1 yX1_lapseTick yX1_lapseTick, Cond.code yX1_lapseTick cX1_lapseTick 2 (some .int), Cond.fieldLink RX1 24 "TrunkYards$Ledger" "lapseTicks" "[I"]
def wsL_lapses : List Cond := .codeWith yL_lapses cL_lapses 4 (some .int) [(0, 9, 12, 36), (0, 9, 15, 15)] :: ((wsL_lapses_r1 ++ wsL_lapses_r2) ++ wsX40 ++ wsX10 ++ (vx_atS RX4 77 "java/lang/IllegalStateException" ["java/lang/RuntimeException", "java/lang/Exception"]).filter goodWord ++ (vx_atS RX4 265 "java/lang/IndexOutOfBoundsException" ["java/lang/RuntimeException", "java/lang/Exception"]).filter goodWord)
def wsL_depart_r1 : List Cond := [Cond.classLink RL 13 "java/lang/IllegalArgumentException", Cond.methodLink RL 102 yX4_depart, Cond.instanceMethod yX4_depart, Cond.selects RX4 yX4_depart yX4_depart, Cond.initialized RX4, Cond.code yX4_depart cX4_depart 6 (some .int), Cond.classLink RX4 86 "java/lang/IllegalArgumentException", Cond.initialized "java/lang/IllegalArgumentException", Cond.classLink RX4 73 "java/lang/IllegalStateException", Cond.initialized "java/lang/IllegalStateException", Cond.fieldLink RX4 274 "TrunkYards" "departed" "I", Cond.fieldLink RX4 54 "TrunkYards" "destination" "[I", Cond.fieldLink RX4 12 "TrunkYards" "rows" "LTrunkYards$Rows;", Cond.methodLink RX4 57 yX4_requireTrack, Cond.static yX4_requireTrack, Cond.code yX4_requireTrack cX4_requireTrack 2 none, Cond.methodLink RX4 297 yX4_isYard, Cond.static yX4_isYard, Cond.code yX4_isYard cX4_isYard 1 (some .boolean), Cond.methodLink RX4 287 yX4_isTrack, Cond.static yX4_isTrack, Cond.code yX4_isTrack cX4_isTrack 1 (some .boolean), Cond.methodLink RX4 101 yX4_requireYard, Cond.static yX4_requireYard]
def wsL_depart_r2 : List Cond := [Cond.code yX4_requireYard cX4_requireYard 1 none, Cond.methodLink RX4 61 yX4_rowOf, Cond.static yX4_rowOf, Cond.code yX4_rowOf cX4_rowOf 2 (some .int), Cond.methodLink RX4 277 yX4_canDepart, Cond.instanceMethod yX4_canDepart, Cond.selects RX4 yX4_canDepart yX4_canDepart, Cond.code yX4_canDepart cX4_canDepart 5 (some .boolean), Cond.fieldLink RX4 29 "TrunkYards" "ledger" "LTrunkYards$Ledger;", Cond.methodLink RX4 91 yX2_count, Cond.instanceMethod yX2_count, Cond.selects RX2 yX2_count yX2_count, Cond.initialized RX2, Cond.code yX2_count cX2_count 2 (some .int), Cond.fieldLink RX2 9 "TrunkYards$Rows" "counts" "[I", Cond.methodLink RX4 107 yX2_get, Cond.instanceMethod yX2_get, Cond.selects RX2 yX2_get yX2_get, Cond.code yX2_get cX2_get 3 (some .int), Cond.fieldLink RX2 15 "TrunkYards$Rows" "standing" "[I", Cond.methodLink RX4 130 yX1_bookingFor, Cond.instanceMethod yX1_bookingFor, Cond.selects RX1 yX1_bookingFor yX1_bookingFor, Cond.initialized RX1]
def wsL_depart_r3 : List Cond := [Cond.code yX1_bookingFor cX1_bookingFor 2 (some .int), Cond.fieldLink RX1 33 "TrunkYards$Ledger" "bookingOfWagon" "[I", Cond.methodLink RX4 258 yX1_standing, Cond.instanceMethod yX1_standing, Cond.selects RX1 yX1_standing yX1_standing, Cond.code yX1_standing cX1_standing 2 (some .int), Cond.fieldLink RX1 21 "TrunkYards$Ledger" "standings" "[I", Cond.methodLink RX4 341 yX4_standsWhole, Cond.instanceMethod yX4_standsWhole, Cond.selects RX4 yX4_standsWhole yX4_standsWhole, Cond.code yX4_standsWhole cX4_standsWhole 5 (some .boolean), Cond.methodLink RX4 201 yX1_size, Cond.instanceMethod yX1_size, Cond.selects RX1 yX1_size yX1_size, Cond.code yX1_size cX1_size 2 (some .int), Cond.fieldLink RX1 27 "TrunkYards$Ledger" "sizes" "[I", Cond.methodLink RX4 282 yX4_load, Cond.instanceMethod yX4_load, Cond.selects RX4 yX4_load yX4_load, Cond.code yX4_load cX4_load 5 none, Cond.fieldLink RX4 40 "TrunkYards" "lastGrain" "[I", Cond.methodLink RX4 163 yX1_grain, Cond.instanceMethod yX1_grain, Cond.selects RX1 yX1_grain yX1_grain]
def wsL_depart_r4 : List Cond := [Cond.code yX1_grain cX1_grain 2 (some .int), Cond.fieldLink RX1 18 "TrunkYards$Ledger" "grains" "[I", Cond.methodLink RX4 189 yX1_keep, Cond.instanceMethod yX1_keep, Cond.selects RX1 yX1_keep yX1_keep, Cond.code yX1_keep cX1_keep 3 none, Cond.methodLink RX4 97 yX4_moveLast, Cond.instanceMethod yX4_moveLast, Cond.selects RX4 yX4_moveLast yX4_moveLast, Cond.code yX4_moveLast cX4_moveLast 4 none, Cond.fieldLink RX4 22 "TrunkYards" "history" "LTrunkYards$History;", Cond.methodLink RX4 327 yX2_move, Cond.instanceMethod yX2_move, Cond.selects RX2 yX2_move yX2_move, Cond.code yX2_move cX2_move 7 none, Cond.methodLink RX4 330 yX0_noteMove, Cond.instanceMethod yX0_noteMove, Cond.selects RX0 yX0_noteMove yX0_noteMove, Cond.initialized RX0, Cond.code yX0_noteMove cX0_noteMove 4 none, Cond.fieldLink RX0 25 "TrunkYards$History" "noted" "I", Cond.fieldLink RX0 9 "TrunkYards$History" "from" "[I", Cond.fieldLink RX0 15 "TrunkYards$History" "to" "[I", Cond.fieldLink RX0 18 "TrunkYards$History" "many" "[I"]
def wsL_depart : List Cond := .codeWith yL_depart cL_depart 6 (some .int) [(0, 12, 15, 13), (0, 12, 19, 15)] :: ((wsL_depart_r1 ++ (wsL_depart_r2 ++ (wsL_depart_r3 ++ wsL_depart_r4))) ++ wsX40 ++ wsX20 ++ wsX10 ++ wsX00 ++ (vx_atS RX4 90 "java/lang/IllegalArgumentException" ["java/lang/RuntimeException", "java/lang/Exception"]).filter goodWord ++ (vx_atS RX4 77 "java/lang/IllegalStateException" ["java/lang/RuntimeException", "java/lang/Exception"]).filter goodWord)
def wsL_arrive_r1 : List Cond := [Cond.classLink RL 36 "java/lang/IndexOutOfBoundsException", Cond.methodLink RL 105 yX4_arrive, Cond.instanceMethod yX4_arrive, Cond.selects RX4 yX4_arrive yX4_arrive, Cond.initialized RX4, Cond.code yX4_arrive cX4_arrive 6 (some .int), Cond.classLink RX4 261 "java/lang/IndexOutOfBoundsException", Cond.initialized "java/lang/IndexOutOfBoundsException", Cond.classLink RX4 86 "java/lang/IllegalArgumentException", Cond.initialized "java/lang/IllegalArgumentException", Cond.classLink RX4 73 "java/lang/IllegalStateException", Cond.initialized "java/lang/IllegalStateException", Cond.fieldLink RX4 274 "TrunkYards" "departed" "I", Cond.fieldLink RX4 54 "TrunkYards" "destination" "[I", Cond.fieldLink RX4 12 "TrunkYards" "rows" "LTrunkYards$Rows;", Cond.methodLink RX4 287 yX4_isTrack, Cond.static yX4_isTrack, Cond.code yX4_isTrack cX4_isTrack 1 (some .boolean), Cond.methodLink RX4 61 yX4_rowOf, Cond.static yX4_rowOf, Cond.code yX4_rowOf cX4_rowOf 2 (some .int), Cond.methodLink RX4 91 yX2_count, Cond.instanceMethod yX2_count, Cond.selects RX2 yX2_count yX2_count]
def wsL_arrive_r2 : List Cond := [Cond.initialized RX2, Cond.code yX2_count cX2_count 2 (some .int), Cond.fieldLink RX2 9 "TrunkYards$Rows" "counts" "[I", Cond.methodLink RX4 69 yX2_hasRoom, Cond.instanceMethod yX2_hasRoom, Cond.selects RX2 yX2_hasRoom yX2_hasRoom, Cond.code yX2_hasRoom cX2_hasRoom 3 (some .boolean), Cond.methodLink RX4 294 yX4_unload, Cond.instanceMethod yX4_unload, Cond.selects RX4 yX4_unload yX4_unload, Cond.code yX4_unload cX4_unload 4 none, Cond.fieldLink RX4 29 "TrunkYards" "ledger" "LTrunkYards$Ledger;", Cond.methodLink RX4 107 yX2_get, Cond.instanceMethod yX2_get, Cond.selects RX2 yX2_get yX2_get, Cond.code yX2_get cX2_get 3 (some .int), Cond.fieldLink RX2 15 "TrunkYards$Rows" "standing" "[I", Cond.methodLink RX4 130 yX1_bookingFor, Cond.instanceMethod yX1_bookingFor, Cond.selects RX1 yX1_bookingFor yX1_bookingFor, Cond.initialized RX1, Cond.code yX1_bookingFor cX1_bookingFor 2 (some .int), Cond.fieldLink RX1 33 "TrunkYards$Ledger" "bookingOfWagon" "[I", Cond.methodLink RX4 206 yX1_release]
def wsL_arrive_r3 : List Cond := [Cond.instanceMethod yX1_release, Cond.selects RX1 yX1_release yX1_release, Cond.code yX1_release cX1_release 4 none, Cond.fieldLink RX1 21 "TrunkYards$Ledger" "standings" "[I", Cond.fieldLink RX1 27 "TrunkYards$Ledger" "sizes" "[I", Cond.methodLink RX1 46 yX1_get, Cond.instanceMethod yX1_get, Cond.selects RX1 yX1_get yX1_get, Cond.code yX1_get cX1_get 3 (some .int), Cond.fieldLink RX1 30 "TrunkYards$Ledger" "booked" "[I", Cond.methodLink RX4 97 yX4_moveLast, Cond.instanceMethod yX4_moveLast, Cond.selects RX4 yX4_moveLast yX4_moveLast, Cond.code yX4_moveLast cX4_moveLast 4 none, Cond.fieldLink RX4 22 "TrunkYards" "history" "LTrunkYards$History;", Cond.methodLink RX4 327 yX2_move, Cond.instanceMethod yX2_move, Cond.selects RX2 yX2_move yX2_move, Cond.code yX2_move cX2_move 7 none, Cond.methodLink RX4 330 yX0_noteMove, Cond.instanceMethod yX0_noteMove, Cond.selects RX0 yX0_noteMove yX0_noteMove, Cond.initialized RX0, Cond.code yX0_noteMove cX0_noteMove 4 none]
def wsL_arrive_r4 : List Cond := [Cond.fieldLink RX0 25 "TrunkYards$History" "noted" "I", Cond.fieldLink RX0 9 "TrunkYards$History" "from" "[I", Cond.fieldLink RX0 15 "TrunkYards$History" "to" "[I", Cond.fieldLink RX0 18 "TrunkYards$History" "many" "[I"]
def wsL_arrive : List Cond := .codeWith yL_arrive cL_arrive 5 (some .int) [(0, 10, 13, 36), (0, 10, 17, 13), (0, 10, 21, 15)] :: ((wsL_arrive_r1 ++ (wsL_arrive_r2 ++ (wsL_arrive_r3 ++ wsL_arrive_r4))) ++ wsX40 ++ wsX20 ++ wsX10 ++ wsX00 ++ (vx_atS RX4 265 "java/lang/IndexOutOfBoundsException" ["java/lang/RuntimeException", "java/lang/Exception"]).filter goodWord ++ (vx_atS RX4 90 "java/lang/IllegalArgumentException" ["java/lang/RuntimeException", "java/lang/Exception"]).filter goodWord ++ (vx_atS RX4 77 "java/lang/IllegalStateException" ["java/lang/RuntimeException", "java/lang/Exception"]).filter goodWord)
def wsL_law0_r1 : List Cond := [Cond.classLink RL 8 RX4, Cond.instantiable RX4 12, Cond.initialized RX4, Cond.classLink RL 109 RX5, Cond.instantiable RX5 30, Cond.initialized RX5, Cond.arrayClass .long, Cond.methodLink RL 108 yX4_init, Cond.instanceMethod yX4_init, Cond.code yX4_init cX4_init 1 none, Cond.methodLink RX4 3 objectInit, Cond.instanceMethod objectInit, Cond.code objectInit ⟨#[0xb1]⟩ 1 none, Cond.classLink RX4 9 RX2, Cond.instantiable RX2 2, Cond.initialized RX2, Cond.fieldLink RX4 12 "TrunkYards" "rows" "LTrunkYards$Rows;", Cond.fieldLink RX4 16 "TrunkYards" "replayed" "LTrunkYards$Rows;", Cond.classLink RX4 19 RX0, Cond.instantiable RX0 4, Cond.initialized RX0, Cond.fieldLink RX4 22 "TrunkYards" "history" "LTrunkYards$History;", Cond.classLink RX4 26 RX1, Cond.instantiable RX1 9]
def wsL_law0_r2 : List Cond := [Cond.initialized RX1, Cond.fieldLink RX4 29 "TrunkYards" "ledger" "LTrunkYards$Ledger;", Cond.classLink RX4 33 RX3, Cond.instantiable RX3 9, Cond.initialized RX3, Cond.fieldLink RX4 36 "TrunkYards" "board" "LTrunkYards$Switchboard;", Cond.arrayClass .int, Cond.fieldLink RX4 40 "TrunkYards" "lastGrain" "[I", Cond.arrayClass .boolean, Cond.fieldLink RX4 50 "TrunkYards" "mayFollow" "[Z", Cond.fieldLink RX4 54 "TrunkYards" "destination" "[I", Cond.instanceMethod yX2_init, Cond.code yX2_init cX2_init 1 none, Cond.methodLink RX2 3 objectInit, Cond.fieldLink RX2 9 "TrunkYards$Rows" "counts" "[I", Cond.fieldLink RX2 15 "TrunkYards$Rows" "standing" "[I", Cond.instanceMethod yX0_init, Cond.code yX0_init cX0_init 1 none, Cond.methodLink RX0 3 objectInit, Cond.fieldLink RX0 9 "TrunkYards$History" "from" "[I", Cond.fieldLink RX0 15 "TrunkYards$History" "to" "[I", Cond.fieldLink RX0 18 "TrunkYards$History" "many" "[I", Cond.methodLink RX4 28 yX1_init, Cond.instanceMethod yX1_init]
def wsL_law0_r3 : List Cond := [Cond.code yX1_init cX1_init 1 none, Cond.methodLink RX1 3 objectInit, Cond.fieldLink RX1 9 "TrunkYards$Ledger" "customers" "[I", Cond.fieldLink RX1 15 "TrunkYards$Ledger" "yards" "[I", Cond.fieldLink RX1 18 "TrunkYards$Ledger" "grains" "[I", Cond.fieldLink RX1 21 "TrunkYards$Ledger" "standings" "[I", Cond.fieldLink RX1 24 "TrunkYards$Ledger" "lapseTicks" "[I", Cond.fieldLink RX1 27 "TrunkYards$Ledger" "sizes" "[I", Cond.fieldLink RX1 30 "TrunkYards$Ledger" "booked" "[I", Cond.fieldLink RX1 33 "TrunkYards$Ledger" "bookingOfWagon" "[I", Cond.methodLink RX1 36 yJ7_fill_53178, Cond.static yJ7_fill_53178, Cond.initialized RJ7, Cond.code yJ7_fill_53178 cJ7_fill_53178 4 none, Cond.methodLink RX4 35 yX3_init, Cond.instanceMethod yX3_init, Cond.code yX3_init cX3_init 1 none, Cond.methodLink RX3 3 objectInit, Cond.fieldLink RX3 9 "TrunkYards$Switchboard" "customers" "[I", Cond.fieldLink RX3 15 "TrunkYards$Switchboard" "yards" "[I", Cond.fieldLink RX3 18 "TrunkYards$Switchboard" "openBookings" "[I", Cond.fieldLink RX3 21 "TrunkYards$Switchboard" "firstTrunks" "[I", Cond.fieldLink RX3 24 "TrunkYards$Switchboard" "secondTrunks" "[I", Cond.fieldLink RX3 27 "TrunkYards$Switchboard" "ongoingCalls" "[I"]
def wsL_law0_r4 : List Cond := [Cond.fieldLink RX3 30 "TrunkYards$Switchboard" "trunks" "[I", Cond.fieldLink RX3 33 "TrunkYards$Switchboard" "lineCounts" "[I", Cond.methodLink RX3 36 yJ7_fill_53178, Cond.methodLink RX4 44 yJ7_fill_53178, Cond.methodLink RL 111 yX5_init, Cond.instanceMethod yX5_init, Cond.code yX5_init cX5_init 1 none, Cond.methodLink RX5 1 objectInit, Cond.fieldLink RX5 7 "TrunkYardsModel" "where" "[I", Cond.fieldLink RX5 13 "TrunkYardsModel" "carried" "[I", Cond.fieldLink RX5 16 "TrunkYardsModel" "booking" "[I", Cond.fieldLink RX5 19 "TrunkYardsModel" "on" "[I", Cond.fieldLink RX5 22 "TrunkYardsModel" "track" "[I", Cond.fieldLink RX5 25 "TrunkYardsModel" "follows" "[I", Cond.fieldLink RX5 28 "TrunkYardsModel" "trunk" "[I", Cond.fieldLink RX5 31 "TrunkYardsModel" "lines" "[I", Cond.fieldLink RX5 34 "TrunkYardsModel" "customer" "[I", Cond.fieldLink RX5 37 "TrunkYardsModel" "yard" "[I", Cond.fieldLink RX5 40 "TrunkYardsModel" "goesOn" "[Z", Cond.fieldLink RX5 44 "TrunkYardsModel" "open" "[I", Cond.fieldLink RX5 47 "TrunkYardsModel" "state" "[I", Cond.fieldLink RX5 50 "TrunkYardsModel" "grain" "[I", Cond.fieldLink RX5 53 "TrunkYardsModel" "owner" "[I", Cond.fieldLink RX5 56 "TrunkYardsModel" "booked" "[I"]
def wsL_law0_r5 : List Cond := [Cond.fieldLink RX5 59 "TrunkYardsModel" "lapse" "[I", Cond.fieldLink RX5 62 "TrunkYardsModel" "many" "[I", Cond.fieldLink RX5 65 "TrunkYardsModel" "wagonOf" "[I", Cond.fieldLink RX5 68 "TrunkYardsModel" "goesTo" "[I", Cond.fieldLink RX5 71 "TrunkYardsModel" "hasArrived" "[Z", Cond.fieldLink RX5 74 "TrunkYardsModel" "length" "[I", Cond.fieldLink RX5 77 "TrunkYardsModel" "train" "[I", Cond.methodLink RL 112 yL_wagon, Cond.static yL_wagon, Cond.initialized RL, Cond.codeWith yL_wagon cL_wagon 5 (some .int) [(0, 10, 13, 13), (0, 10, 17, 15)], Cond.classLink RL 13 "java/lang/IllegalArgumentException", Cond.methodLink RL 7 yX4_wagon, Cond.instanceMethod yX4_wagon, Cond.selects RX4 yX4_wagon yX4_wagon, Cond.code yX4_wagon cX4_wagon 5 (some .int), Cond.classLink RX4 73 "java/lang/IllegalStateException", Cond.initialized "java/lang/IllegalStateException", Cond.fieldLink RX4 65 "TrunkYards" "placed" "I", Cond.methodLink RX4 57 yX4_requireTrack, Cond.static yX4_requireTrack, Cond.code yX4_requireTrack cX4_requireTrack 2 none, Cond.classLink RX4 86 "java/lang/IllegalArgumentException", Cond.initialized "java/lang/IllegalArgumentException"]
def wsL_law0_r6 : List Cond := [Cond.methodLink RX4 297 yX4_isYard, Cond.static yX4_isYard, Cond.code yX4_isYard cX4_isYard 1 (some .boolean), Cond.methodLink RX4 287 yX4_isTrack, Cond.static yX4_isTrack, Cond.code yX4_isTrack cX4_isTrack 1 (some .boolean), Cond.methodLink RX4 61 yX4_rowOf, Cond.static yX4_rowOf, Cond.code yX4_rowOf cX4_rowOf 2 (some .int), Cond.methodLink RX4 69 yX2_hasRoom, Cond.instanceMethod yX2_hasRoom, Cond.selects RX2 yX2_hasRoom yX2_hasRoom, Cond.code yX2_hasRoom cX2_hasRoom 3 (some .boolean), Cond.methodLink RX4 80 yX2_put, Cond.instanceMethod yX2_put, Cond.selects RX2 yX2_put yX2_put, Cond.code yX2_put cX2_put 3 none, Cond.methodLink RX4 83 yX0_notePlacing, Cond.instanceMethod yX0_notePlacing, Cond.selects RX0 yX0_notePlacing yX0_notePlacing, Cond.code yX0_notePlacing cX0_notePlacing 3 none, Cond.methodLink RX0 21 yX0_noteMove, Cond.instanceMethod yX0_noteMove, Cond.selects RX0 yX0_noteMove yX0_noteMove]
def wsL_law0_r7 : List Cond := [Cond.code yX0_noteMove cX0_noteMove 4 none, Cond.fieldLink RX0 25 "TrunkYards$History" "noted" "I", Cond.methodLink RL 117 yX5_wagon, Cond.instanceMethod yX5_wagon, Cond.selects RX5 yX5_wagon yX5_wagon, Cond.code yX5_wagon cX5_wagon 3 (some .int), Cond.fieldLink RX5 92 "TrunkYardsModel" "wagons" "I", Cond.fieldLink RX5 80 "TrunkYardsModel" "thrown" "I", Cond.methodLink RX5 95 yX5_isTrack, Cond.static yX5_isTrack, Cond.code yX5_isTrack cX5_isTrack 2 (some .boolean), Cond.methodLink RX5 88 yX5_isYard, Cond.static yX5_isYard, Cond.code yX5_isYard cX5_isYard 1 (some .boolean), Cond.methodLink RX5 84 yX5_in, Cond.static yX5_in, Cond.code yX5_in cX5_in 3 (some .boolean), Cond.methodLink RX5 99 yX5_puts, Cond.instanceMethod yX5_puts, Cond.selects RX5 yX5_puts yX5_puts, Cond.code yX5_puts cX5_puts 5 none, Cond.methodLink RL 118 yX5_thrown, Cond.instanceMethod yX5_thrown, Cond.selects RX5 yX5_thrown yX5_thrown]
def wsL_law0_r8 : List Cond := [Cond.code yX5_thrown cX5_thrown 1 (some .int), Cond.methodLink RL 122 yL_shunt, Cond.static yL_shunt, Cond.codeWith yL_shunt cL_shunt 7 (some .int) [(0, 14, 17, 13), (0, 14, 21, 15)], Cond.methodLink RL 17 yX4_shunt, Cond.instanceMethod yX4_shunt, Cond.selects RX4 yX4_shunt yX4_shunt, Cond.code yX4_shunt cX4_shunt 7 (some .int), Cond.methodLink RX4 91 yX2_count, Cond.instanceMethod yX2_count, Cond.selects RX2 yX2_count yX2_count, Cond.code yX2_count cX2_count 2 (some .int), Cond.methodLink RX4 97 yX4_moveLast, Cond.instanceMethod yX4_moveLast, Cond.selects RX4 yX4_moveLast yX4_moveLast, Cond.code yX4_moveLast cX4_moveLast 4 none, Cond.methodLink RX4 327 yX2_move, Cond.instanceMethod yX2_move, Cond.selects RX2 yX2_move yX2_move, Cond.code yX2_move cX2_move 7 none, Cond.methodLink RX4 330 yX0_noteMove, Cond.methodLink RL 125 yX5_shunt, Cond.instanceMethod yX5_shunt, Cond.selects RX5 yX5_shunt yX5_shunt]
def wsL_law0_r9 : List Cond := [Cond.code yX5_shunt cX5_shunt 8 (some .int), Cond.methodLink RL 126 yL_wash, Cond.static yL_wash, Cond.codeWith yL_wash cL_wash 4 (some .int) [(0, 9, 12, 13), (0, 9, 15, 15)], Cond.methodLink RL 21 yX4_wash, Cond.instanceMethod yX4_wash, Cond.selects RX4 yX4_wash yX4_wash, Cond.code yX4_wash cX4_wash 6 (some .int), Cond.methodLink RX4 101 yX4_requireYard, Cond.static yX4_requireYard, Cond.code yX4_requireYard cX4_requireYard 1 none, Cond.methodLink RX4 107 yX2_get, Cond.instanceMethod yX2_get, Cond.selects RX2 yX2_get yX2_get, Cond.code yX2_get cX2_get 3 (some .int), Cond.methodLink RL 129 yX5_wash, Cond.instanceMethod yX5_wash, Cond.selects RX5 yX5_wash yX5_wash, Cond.code yX5_wash cX5_wash 5 (some .int), Cond.methodLink RL 130 yL_follow, Cond.static yL_follow, Cond.codeWith yL_follow cL_follow 5 (some .int) [(0, 17, 20, 13)], Cond.methodLink RL 25 yX4_follow, Cond.instanceMethod yX4_follow]
def wsL_law0_r10 : List Cond := [Cond.selects RX4 yX4_follow yX4_follow, Cond.code yX4_follow cX4_follow 4 (some .boolean), Cond.methodLink RX4 110 yX4_isGrain, Cond.static yX4_isGrain, Cond.code yX4_isGrain cX4_isGrain 1 (some .boolean), Cond.methodLink RL 132 yX5_follow, Cond.instanceMethod yX5_follow, Cond.selects RX5 yX5_follow yX5_follow, Cond.code yX5_follow cX5_follow 3 (some .boolean), Cond.methodLink RX5 103 yX5_isGrain, Cond.static yX5_isGrain, Cond.code yX5_isGrain cX5_isGrain 1 (some .boolean), Cond.methodLink RL 133 yL_on, Cond.static yL_on, Cond.codeWith yL_on cL_on 5 (some .int) [(0, 10, 13, 13)], Cond.methodLink RL 29 yX4_on, Cond.instanceMethod yX4_on, Cond.selects RX4 yX4_on yX4_on, Cond.code yX4_on cX4_on 3 (some .int), Cond.methodLink RL 135 yX5_on, Cond.instanceMethod yX5_on, Cond.selects RX5 yX5_on yX5_on, Cond.code yX5_on cX5_on 3 (some .int), Cond.methodLink RL 136 yL_at]
def wsL_law0_r11 : List Cond := [Cond.static yL_at, Cond.codeWith yL_at cL_at 6 (some .int) [(0, 12, 15, 13), (0, 12, 19, 36)], Cond.methodLink RL 32 yX4_at, Cond.instanceMethod yX4_at, Cond.selects RX4 yX4_at yX4_at, Cond.code yX4_at cX4_at 4 (some .int), Cond.methodLink RX4 116 yX4_wagonIn, Cond.static yX4_wagonIn, Cond.code yX4_wagonIn cX4_wagonIn 3 (some .int), Cond.classLink RX4 261 "java/lang/IndexOutOfBoundsException", Cond.initialized "java/lang/IndexOutOfBoundsException", Cond.methodLink RL 139 yX5_at, Cond.instanceMethod yX5_at, Cond.selects RX5 yX5_at yX5_at, Cond.code yX5_at cX5_at 4 (some .int), Cond.methodLink RX5 106 yX5_wagonAt, Cond.instanceMethod yX5_wagonAt, Cond.selects RX5 yX5_wagonAt yX5_wagonAt, Cond.code yX5_wagonAt cX5_wagonAt 4 (some .int), Cond.methodLink RL 140 yL_atByReplay, Cond.static yL_atByReplay, Cond.codeWith yL_atByReplay cL_atByReplay 6 (some .int) [(0, 12, 15, 13), (0, 12, 19, 36)], Cond.methodLink RL 38 yX4_atByReplay, Cond.instanceMethod yX4_atByReplay]
def wsL_law0_r12 : List Cond := [Cond.selects RX4 yX4_atByReplay yX4_atByReplay, Cond.code yX4_atByReplay cX4_atByReplay 4 (some .int), Cond.methodLink RX4 120 yX0_replay, Cond.instanceMethod yX0_replay, Cond.selects RX0 yX0_replay yX0_replay, Cond.code yX0_replay cX0_replay 3 none, Cond.methodLink RX0 29 yX2_clear, Cond.instanceMethod yX2_clear, Cond.selects RX2 yX2_clear yX2_clear, Cond.code yX2_clear cX2_clear 1 none, Cond.methodLink RX2 22 yJ7_fill_53178, Cond.methodLink RX0 34 yX2_put, Cond.methodLink RX0 38 yX2_move, Cond.methodLink RL 142 yX5_atByReplay, Cond.instanceMethod yX5_atByReplay, Cond.selects RX5 yX5_atByReplay yX5_atByReplay, Cond.code yX5_atByReplay cX5_atByReplay 4 (some .int), Cond.methodLink RL 143 yL_where, Cond.static yL_where, Cond.codeWith yL_where cL_where 4 (some .int) [(0, 9, 12, 36)], Cond.classLink RL 36 "java/lang/IndexOutOfBoundsException", Cond.methodLink RL 41 yX4_where, Cond.instanceMethod yX4_where, Cond.selects RX4 yX4_where yX4_where]
def wsL_law0_r13 : List Cond := [Cond.code yX4_where cX4_where 3 (some .int), Cond.methodLink RX4 124 yX4_requireWagon, Cond.instanceMethod yX4_requireWagon, Cond.selects RX4 yX4_requireWagon yX4_requireWagon, Cond.code yX4_requireWagon cX4_requireWagon 2 none, Cond.methodLink RX4 127 yX2_findOnTracks, Cond.instanceMethod yX2_findOnTracks, Cond.selects RX2 yX2_findOnTracks yX2_findOnTracks, Cond.code yX2_findOnTracks cX2_findOnTracks 4 (some .int), Cond.methodLink RX2 18 yX2_get, Cond.methodLink RL 145 yX5_where, Cond.instanceMethod yX5_where, Cond.selects RX5 yX5_where yX5_where, Cond.code yX5_where cX5_where 2 (some .int), Cond.methodLink RX5 113 yX5_asksWagon, Cond.instanceMethod yX5_asksWagon, Cond.selects RX5 yX5_asksWagon yX5_asksWagon, Cond.code yX5_asksWagon cX5_asksWagon 2 (some .boolean), Cond.methodLink RX5 110 yX5_isWagon, Cond.instanceMethod yX5_isWagon, Cond.selects RX5 yX5_isWagon yX5_isWagon, Cond.code yX5_isWagon cX5_isWagon 2 (some .boolean), Cond.methodLink RL 146 yL_carried, Cond.static yL_carried]
def wsL_law0_r14 : List Cond := [Cond.codeWith yL_carried cL_carried 4 (some .int) [(0, 9, 12, 36)], Cond.methodLink RL 44 yX4_carried, Cond.instanceMethod yX4_carried, Cond.selects RX4 yX4_carried yX4_carried, Cond.code yX4_carried cX4_carried 2 (some .int), Cond.methodLink RL 148 yX5_carried, Cond.instanceMethod yX5_carried, Cond.selects RX5 yX5_carried yX5_carried, Cond.code yX5_carried cX5_carried 2 (some .int), Cond.methodLink RL 149 yL_promised, Cond.static yL_promised, Cond.codeWith yL_promised cL_promised 4 (some .int) [(0, 9, 12, 36)], Cond.methodLink RL 47 yX4_promised, Cond.instanceMethod yX4_promised, Cond.selects RX4 yX4_promised yX4_promised, Cond.code yX4_promised cX4_promised 2 (some .int), Cond.methodLink RX4 130 yX1_bookingFor, Cond.instanceMethod yX1_bookingFor, Cond.selects RX1 yX1_bookingFor yX1_bookingFor, Cond.code yX1_bookingFor cX1_bookingFor 2 (some .int), Cond.methodLink RL 151 yX5_promised, Cond.instanceMethod yX5_promised, Cond.selects RX5 yX5_promised yX5_promised, Cond.code yX5_promised cX5_promised 2 (some .int)]
def wsL_law0_r15 : List Cond := [Cond.methodLink RX5 116 yX5_isPromised, Cond.instanceMethod yX5_isPromised, Cond.selects RX5 yX5_isPromised yX5_isPromised, Cond.code yX5_isPromised cX5_isPromised 2 (some .boolean), Cond.methodLink RL 152 yL_call, Cond.static yL_call, Cond.codeWith yL_call cL_call 5 (some .int) [(0, 10, 13, 13), (0, 10, 17, 15)], Cond.methodLink RL 50 yX4_call, Cond.instanceMethod yX4_call, Cond.selects RX4 yX4_call yX4_call, Cond.code yX4_call cX4_call 4 (some .int), Cond.fieldLink RX4 148 "TrunkYards" "busyCalls" "I", Cond.methodLink RX4 133 yX4_requireCustomer, Cond.static yX4_requireCustomer, Cond.code yX4_requireCustomer cX4_requireCustomer 1 none, Cond.methodLink RX4 136 yX3_ongoing, Cond.instanceMethod yX3_ongoing, Cond.selects RX3 yX3_ongoing yX3_ongoing, Cond.code yX3_ongoing cX3_ongoing 2 (some .int), Cond.methodLink RX4 139 yX3_isFull, Cond.instanceMethod yX3_isFull, Cond.selects RX3 yX3_isFull yX3_isFull, Cond.code yX3_isFull cX3_isFull 1 (some .boolean), Cond.fieldLink RX3 42 "TrunkYards$Switchboard" "begun" "I"]
def wsL_law0_r16 : List Cond := [Cond.methodLink RX4 145 yX3_begin, Cond.instanceMethod yX3_begin, Cond.selects RX3 yX3_begin yX3_begin, Cond.code yX3_begin cX3_begin 8 (some .int), Cond.methodLink RX3 46 yX3_callsTo, Cond.instanceMethod yX3_callsTo, Cond.selects RX3 yX3_callsTo yX3_callsTo, Cond.code yX3_callsTo cX3_callsTo 5 (some .int), Cond.methodLink RX3 50 yX3_connect, Cond.instanceMethod yX3_connect, Cond.selects RX3 yX3_connect yX3_connect, Cond.code yX3_connect cX3_connect 6 (some .int), Cond.methodLink RX3 58 yX3_occupy, Cond.instanceMethod yX3_occupy, Cond.selects RX3 yX3_occupy yX3_occupy, Cond.code yX3_occupy cX3_occupy 3 none, Cond.methodLink RX3 54 yX3_freeTrunk, Cond.instanceMethod yX3_freeTrunk, Cond.selects RX3 yX3_freeTrunk yX3_freeTrunk, Cond.code yX3_freeTrunk cX3_freeTrunk 5 (some .int), Cond.static yX4_slotOf, Cond.code yX4_slotOf cX4_slotOf 3 (some .int), Cond.methodLink RL 154 yX5_call, Cond.instanceMethod yX5_call]
def wsL_law0_r17 : List Cond := [Cond.selects RX5 yX5_call yX5_call, Cond.code yX5_call cX5_call 3 (some .int), Cond.fieldLink RX5 119 "TrunkYardsModel" "calls" "I", Cond.fieldLink RX5 142 "TrunkYardsModel" "busy" "I", Cond.methodLink RX5 132 yX5_callNow, Cond.instanceMethod yX5_callNow, Cond.selects RX5 yX5_callNow yX5_callNow, Cond.code yX5_callNow cX5_callNow 4 (some .int), Cond.methodLink RX5 136 yX5_callsTo, Cond.instanceMethod yX5_callsTo, Cond.selects RX5 yX5_callsTo yX5_callsTo, Cond.code yX5_callsTo cX5_callsTo 4 (some .int), Cond.methodLink RX5 139 yX5_takesWay, Cond.instanceMethod yX5_takesWay, Cond.selects RX5 yX5_takesWay yX5_takesWay, Cond.code yX5_takesWay cX5_takesWay 7 (some .boolean), Cond.methodLink RX5 129 yX5_freeBetween, Cond.instanceMethod yX5_freeBetween, Cond.selects RX5 yX5_freeBetween yX5_freeBetween, Cond.code yX5_freeBetween cX5_freeBetween 4 (some .int), Cond.methodLink RX5 125 yX5_between, Cond.static yX5_between, Cond.code yX5_between cX5_between 2 (some .int), Cond.methodLink RL 155 yL_ask]
def wsL_law0_r18 : List Cond := [Cond.static yL_ask, Cond.codeWith yL_ask cL_ask 5 (some .int) [(0, 10, 13, 36), (0, 10, 17, 13), (0, 10, 21, 15)], Cond.methodLink RL 53 yX4_ask, Cond.instanceMethod yX4_ask, Cond.selects RX4 yX4_ask yX4_ask, Cond.code yX4_ask cX4_ask 5 (some .int), Cond.methodLink RX4 151 yX4_requireCall, Cond.instanceMethod yX4_requireCall, Cond.selects RX4 yX4_requireCall yX4_requireCall, Cond.code yX4_requireCall cX4_requireCall 2 none, Cond.methodLink RX4 313 yX3_hasBegun, Cond.instanceMethod yX3_hasBegun, Cond.selects RX3 yX3_hasBegun yX3_hasBegun, Cond.code yX3_hasBegun cX3_hasBegun 2 (some .boolean), Cond.methodLink RX4 156 yX4_requireOngoing, Cond.instanceMethod yX4_requireOngoing, Cond.selects RX4 yX4_requireOngoing yX4_requireOngoing, Cond.code yX4_requireOngoing cX4_requireOngoing 2 none, Cond.methodLink RX4 318 yX3_goesOn, Cond.instanceMethod yX3_goesOn, Cond.selects RX3 yX3_goesOn yX3_goesOn, Cond.code yX3_goesOn cX3_goesOn 2 (some .boolean), Cond.methodLink RX4 159 yX3_openBooking, Cond.instanceMethod yX3_openBooking]
def wsL_law0_r19 : List Cond := [Cond.selects RX3 yX3_openBooking yX3_openBooking, Cond.code yX3_openBooking cX3_openBooking 2 (some .int), Cond.methodLink RX4 162 yX1_isFull, Cond.instanceMethod yX1_isFull, Cond.selects RX1 yX1_isFull yX1_isFull, Cond.code yX1_isFull cX1_isFull 1 (some .boolean), Cond.fieldLink RX1 42 "TrunkYards$Ledger" "count" "I", Cond.methodLink RX4 163 yX1_grain, Cond.instanceMethod yX1_grain, Cond.selects RX1 yX1_grain yX1_grain, Cond.code yX1_grain cX1_grain 2 (some .int), Cond.methodLink RX4 168 yX3_yard, Cond.instanceMethod yX3_yard, Cond.selects RX3 yX3_yard yX3_yard, Cond.code yX3_yard cX3_yard 2 (some .int), Cond.methodLink RX4 171 yX4_findWagon, Cond.instanceMethod yX4_findWagon, Cond.selects RX4 yX4_findWagon yX4_findWagon, Cond.code yX4_findWagon cX4_findWagon 8 (some .int), Cond.methodLink RX4 333 yX4_fits, Cond.instanceMethod yX4_fits, Cond.selects RX4 yX4_fits yX4_fits, Cond.code yX4_fits cX4_fits 4 (some .boolean), Cond.methodLink RX4 174 yX3_customer]
def wsL_law0_r20 : List Cond := [Cond.instanceMethod yX3_customer, Cond.selects RX3 yX3_customer yX3_customer, Cond.code yX3_customer cX3_customer 2 (some .int), Cond.methodLink RX4 177 yX1_open, Cond.instanceMethod yX1_open, Cond.selects RX1 yX1_open yX1_open, Cond.code yX1_open cX1_open 5 (some .int), Cond.methodLink RX4 181 yX3_setOpenBooking, Cond.instanceMethod yX3_setOpenBooking, Cond.selects RX3 yX3_setOpenBooking yX3_setOpenBooking, Cond.code yX3_setOpenBooking cX3_setOpenBooking 3 none, Cond.methodLink RX4 184 yX1_add, Cond.instanceMethod yX1_add, Cond.selects RX1 yX1_add yX1_add, Cond.code yX1_add cX1_add 3 none, Cond.methodLink RL 157 yX5_ask, Cond.instanceMethod yX5_ask, Cond.selects RX5 yX5_ask yX5_ask, Cond.code yX5_ask cX5_ask 4 (some .int), Cond.fieldLink RX5 122 "TrunkYardsModel" "bookings" "I", Cond.methodLink RX5 148 yX5_isCall, Cond.instanceMethod yX5_isCall, Cond.selects RX5 yX5_isCall yX5_isCall, Cond.code yX5_isCall cX5_isCall 2 (some .boolean)]
def wsL_law0_r21 : List Cond := [Cond.methodLink RX5 151 yX5_finds, Cond.instanceMethod yX5_finds, Cond.selects RX5 yX5_finds yX5_finds, Cond.code yX5_finds cX5_finds 10 (some .int), Cond.methodLink RX5 145 yX5_fits, Cond.instanceMethod yX5_fits, Cond.selects RX5 yX5_fits yX5_fits, Cond.code yX5_fits cX5_fits 3 (some .boolean), Cond.methodLink RX5 154 yX5_adds, Cond.instanceMethod yX5_adds, Cond.selects RX5 yX5_adds yX5_adds, Cond.code yX5_adds cX5_adds 3 none, Cond.methodLink RL 158 yL_confirm, Cond.static yL_confirm, Cond.codeWith yL_confirm cL_confirm 4 (some .int) [(0, 9, 12, 36), (0, 9, 15, 15)], Cond.methodLink RL 56 yX4_confirm, Cond.instanceMethod yX4_confirm, Cond.selects RX4 yX4_confirm yX4_confirm, Cond.code yX4_confirm cX4_confirm 3 (some .int), Cond.methodLink RX4 189 yX1_keep, Cond.instanceMethod yX1_keep, Cond.selects RX1 yX1_keep yX1_keep, Cond.code yX1_keep cX1_keep 3 none, Cond.methodLink RL 160 yX5_confirm]
def wsL_law0_r22 : List Cond := [Cond.instanceMethod yX5_confirm, Cond.selects RX5 yX5_confirm yX5_confirm, Cond.code yX5_confirm cX5_confirm 3 (some .int), Cond.methodLink RL 161 yL_resume, Cond.static yL_resume, Cond.codeWith yL_resume cL_resume 5 (some .int) [(0, 10, 13, 36), (0, 10, 17, 15)], Cond.methodLink RL 59 yX4_resume, Cond.instanceMethod yX4_resume, Cond.selects RX4 yX4_resume yX4_resume, Cond.code yX4_resume cX4_resume 3 (some .int), Cond.methodLink RX4 192 yX4_requireBooking, Cond.instanceMethod yX4_requireBooking, Cond.selects RX4 yX4_requireBooking yX4_requireBooking, Cond.code yX4_requireBooking cX4_requireBooking 2 none, Cond.methodLink RX4 254 yX1_opened, Cond.instanceMethod yX1_opened, Cond.selects RX1 yX1_opened yX1_opened, Cond.code yX1_opened cX1_opened 1 (some .int), Cond.methodLink RX4 195 yX4_isWithin, Cond.instanceMethod yX4_isWithin, Cond.selects RX4 yX4_isWithin yX4_isWithin, Cond.code yX4_isWithin cX4_isWithin 4 (some .boolean), Cond.methodLink RX4 258 yX1_standing, Cond.instanceMethod yX1_standing]
def wsL_law0_r23 : List Cond := [Cond.selects RX1 yX1_standing yX1_standing, Cond.code yX1_standing cX1_standing 2 (some .int), Cond.methodLink RX4 336 yX1_customer, Cond.instanceMethod yX1_customer, Cond.selects RX1 yX1_customer yX1_customer, Cond.code yX1_customer cX1_customer 2 (some .int), Cond.methodLink RX4 337 yX1_yard, Cond.instanceMethod yX1_yard, Cond.selects RX1 yX1_yard yX1_yard, Cond.code yX1_yard cX1_yard 2 (some .int), Cond.methodLink RX4 201 yX1_size, Cond.instanceMethod yX1_size, Cond.selects RX1 yX1_size yX1_size, Cond.code yX1_size cX1_size 2 (some .int), Cond.methodLink RL 163 yX5_resume, Cond.instanceMethod yX5_resume, Cond.selects RX5 yX5_resume yX5_resume, Cond.code yX5_resume cX5_resume 3 (some .int), Cond.methodLink RX5 158 yX5_isBooking, Cond.instanceMethod yX5_isBooking, Cond.selects RX5 yX5_isBooking yX5_isBooking, Cond.code yX5_isBooking cX5_isBooking 2 (some .boolean), Cond.methodLink RX5 161 yX5_isOf, Cond.instanceMethod yX5_isOf]
def wsL_law0_r24 : List Cond := [Cond.selects RX5 yX5_isOf yX5_isOf, Cond.code yX5_isOf cX5_isOf 3 (some .boolean), Cond.methodLink RL 164 yL_cancel, Cond.static yL_cancel, Cond.codeWith yL_cancel cL_cancel 5 (some .int) [(0, 10, 13, 36), (0, 10, 17, 15)], Cond.methodLink RL 62 yX4_cancel, Cond.instanceMethod yX4_cancel, Cond.selects RX4 yX4_cancel yX4_cancel, Cond.code yX4_cancel cX4_cancel 3 (some .int), Cond.methodLink RX4 206 yX1_release, Cond.instanceMethod yX1_release, Cond.selects RX1 yX1_release yX1_release, Cond.code yX1_release cX1_release 4 none, Cond.methodLink RX1 46 yX1_get, Cond.instanceMethod yX1_get, Cond.selects RX1 yX1_get yX1_get, Cond.code yX1_get cX1_get 3 (some .int), Cond.methodLink RL 166 yX5_cancel, Cond.instanceMethod yX5_cancel, Cond.selects RX5 yX5_cancel yX5_cancel, Cond.code yX5_cancel cX5_cancel 3 (some .int), Cond.methodLink RL 167 yL_hangUp, Cond.static yL_hangUp, Cond.codeWith yL_hangUp cL_hangUp 4 (some .int) [(0, 9, 12, 36), (0, 9, 15, 15)]]
def wsL_law0_r25 : List Cond := [Cond.methodLink RL 65 yX4_hangUp, Cond.instanceMethod yX4_hangUp, Cond.selects RX4 yX4_hangUp yX4_hangUp, Cond.code yX4_hangUp cX4_hangUp 3 (some .int), Cond.methodLink RX4 209 yX3_end, Cond.instanceMethod yX3_end, Cond.selects RX3 yX3_end yX3_end, Cond.code yX3_end cX3_end 2 none, Cond.methodLink RL 169 yX5_hangUp, Cond.instanceMethod yX5_hangUp, Cond.selects RX5 yX5_hangUp yX5_hangUp, Cond.code yX5_hangUp cX5_hangUp 3 (some .int), Cond.methodLink RX5 164 yX5_ends, Cond.instanceMethod yX5_ends, Cond.selects RX5 yX5_ends yX5_ends, Cond.code yX5_ends cX5_ends 3 none, Cond.methodLink RL 170 yL_callOf, Cond.static yL_callOf, Cond.codeWith yL_callOf cL_callOf 4 (some .int) [(0, 9, 12, 13)], Cond.methodLink RL 68 yX4_callOf, Cond.instanceMethod yX4_callOf, Cond.selects RX4 yX4_callOf yX4_callOf, Cond.code yX4_callOf cX4_callOf 2 (some .int), Cond.methodLink RL 172 yX5_callOf]
def wsL_law0_r26 : List Cond := [Cond.instanceMethod yX5_callOf, Cond.selects RX5 yX5_callOf yX5_callOf, Cond.code yX5_callOf cX5_callOf 2 (some .int), Cond.methodLink RL 173 yL_way, Cond.static yL_way, Cond.codeWith yL_way cL_way 4 (some .int) [(0, 9, 12, 36), (0, 9, 15, 15)], Cond.methodLink RL 71 yX4_way, Cond.instanceMethod yX4_way, Cond.selects RX4 yX4_way yX4_way, Cond.code yX4_way cX4_way 2 (some .int), Cond.methodLink RX4 212 yX3_trunksOf, Cond.instanceMethod yX3_trunksOf, Cond.selects RX3 yX3_trunksOf yX3_trunksOf, Cond.code yX3_trunksOf cX3_trunksOf 2 (some .int), Cond.methodLink RL 175 yX5_way, Cond.instanceMethod yX5_way, Cond.selects RX5 yX5_way yX5_way, Cond.code yX5_way cX5_way 4 (some .int), Cond.methodLink RL 176 yX4_busy, Cond.instanceMethod yX4_busy, Cond.selects RX4 yX4_busy yX4_busy, Cond.code yX4_busy cX4_busy 1 (some .int), Cond.methodLink RL 179 yX5_busy, Cond.instanceMethod yX5_busy]
def wsL_law0_r27 : List Cond := [Cond.selects RX5 yX5_busy yX5_busy, Cond.code yX5_busy cX5_busy 1 (some .int), Cond.methodLink RL 180 yL_cut, Cond.static yL_cut, Cond.codeWith yL_cut cL_cut 6 (some .int) [(0, 12, 15, 13), (0, 12, 19, 15)], Cond.methodLink RL 74 yX4_cut, Cond.instanceMethod yX4_cut, Cond.selects RX4 yX4_cut yX4_cut, Cond.code yX4_cut cX4_cut 6 (some .int), Cond.methodLink RX4 215 yX4_requireTrunk, Cond.static yX4_requireTrunk, Cond.code yX4_requireTrunk cX4_requireTrunk 3 none, Cond.methodLink RX4 306 yX4_isExchange, Cond.static yX4_isExchange, Cond.code yX4_isExchange cX4_isExchange 1 (some .boolean), Cond.methodLink RX4 218 yX4_slotOf, Cond.methodLink RX4 221 yX3_trunkHas, Cond.instanceMethod yX3_trunkHas, Cond.selects RX3 yX3_trunkHas yX3_trunkHas, Cond.code yX3_trunkHas cX3_trunkHas 2 (some .int), Cond.methodLink RX4 226 yX4_cutOff, Cond.instanceMethod yX4_cutOff, Cond.selects RX4 yX4_cutOff yX4_cutOff, Cond.code yX4_cutOff cX4_cutOff 3 none]
def wsL_law0_r28 : List Cond := [Cond.fieldLink RX4 246 "TrunkYards" "now" "I", Cond.methodLink RX4 338 yX1_halve, Cond.instanceMethod yX1_halve, Cond.selects RX1 yX1_halve yX1_halve, Cond.code yX1_halve cX1_halve 3 none, Cond.methodLink RX4 229 yX3_setTrunk, Cond.instanceMethod yX3_setTrunk, Cond.selects RX3 yX3_setTrunk yX3_setTrunk, Cond.code yX3_setTrunk cX3_setTrunk 3 none, Cond.methodLink RL 182 yX5_cut, Cond.instanceMethod yX5_cut, Cond.selects RX5 yX5_cut yX5_cut, Cond.code yX5_cut cX5_cut 5 (some .int), Cond.fieldLink RX5 171 "TrunkYardsModel" "now" "I", Cond.methodLink RX5 168 yX5_isTrunk, Cond.static yX5_isTrunk, Cond.code yX5_isTrunk cX5_isTrunk 3 (some .boolean), Cond.methodLink RL 183 yL_mend, Cond.static yL_mend, Cond.codeWith yL_mend cL_mend 5 (some .int) [(0, 7, 10, 13), (0, 7, 14, 15)], Cond.methodLink RL 77 yX4_mend, Cond.instanceMethod yX4_mend, Cond.selects RX4 yX4_mend yX4_mend, Cond.code yX4_mend cX4_mend 5 none]
def wsL_law0_r29 : List Cond := [Cond.methodLink RL 186 yX5_mend, Cond.instanceMethod yX5_mend, Cond.selects RX5 yX5_mend yX5_mend, Cond.code yX5_mend cX5_mend 4 none, Cond.methodLink RL 187 yL_trunk, Cond.static yL_trunk, Cond.codeWith yL_trunk cL_trunk 6 (some .int) [(0, 12, 15, 13)], Cond.methodLink RL 81 yX4_trunk, Cond.instanceMethod yX4_trunk, Cond.selects RX4 yX4_trunk yX4_trunk, Cond.code yX4_trunk cX4_trunk 4 (some .int), Cond.methodLink RL 189 yX5_trunk, Cond.instanceMethod yX5_trunk, Cond.selects RX5 yX5_trunk yX5_trunk, Cond.code yX5_trunk cX5_trunk 4 (some .int), Cond.methodLink RL 190 yL_setLines, Cond.static yL_setLines, Cond.codeWith yL_setLines cL_setLines 5 (some .int) [(0, 10, 13, 13), (0, 10, 17, 15)], Cond.methodLink RL 84 yX4_setLines, Cond.instanceMethod yX4_setLines, Cond.selects RX4 yX4_setLines yX4_setLines, Cond.code yX4_setLines cX4_setLines 3 (some .int), Cond.methodLink RX4 236 yX3_callsTo, Cond.methodLink RX4 241 yX3_changeLines]
def wsL_law0_r30 : List Cond := [Cond.instanceMethod yX3_changeLines, Cond.selects RX3 yX3_changeLines yX3_changeLines, Cond.code yX3_changeLines cX3_changeLines 4 (some .int), Cond.methodLink RL 192 yX5_setLines, Cond.instanceMethod yX5_setLines, Cond.selects RX5 yX5_setLines yX5_setLines, Cond.code yX5_setLines cX5_setLines 4 (some .int), Cond.methodLink RL 193 yL_pass, Cond.static yL_pass, Cond.codeWith yL_pass cL_pass 4 (some .int) [(0, 9, 12, 13), (0, 9, 15, 15)], Cond.methodLink RL 87 yX4_pass, Cond.instanceMethod yX4_pass, Cond.selects RX4 yX4_pass yX4_pass, Cond.code yX4_pass cX4_pass 2 (some .int), Cond.methodLink RX4 251 yX1_lapseAll, Cond.instanceMethod yX1_lapseAll, Cond.selects RX1 yX1_lapseAll yX1_lapseAll, Cond.code yX1_lapseAll cX1_lapseAll 4 (some .int), Cond.methodLink RX1 50 yX1_release, Cond.methodLink RL 195 yX5_pass, Cond.instanceMethod yX5_pass, Cond.selects RX5 yX5_pass yX5_pass, Cond.code yX5_pass cX5_pass 4 (some .int), Cond.methodLink RL 196 yX4_bookings]
def wsL_law0_r31 : List Cond := [Cond.instanceMethod yX4_bookings, Cond.selects RX4 yX4_bookings yX4_bookings, Cond.code yX4_bookings cX4_bookings 1 (some .int), Cond.methodLink RL 199 yX5_bookings, Cond.instanceMethod yX5_bookings, Cond.selects RX5 yX5_bookings yX5_bookings, Cond.code yX5_bookings cX5_bookings 1 (some .int), Cond.methodLink RL 200 yL_state, Cond.static yL_state, Cond.codeWith yL_state cL_state 4 (some .int) [(0, 9, 12, 36)], Cond.methodLink RL 90 yX4_state, Cond.instanceMethod yX4_state, Cond.selects RX4 yX4_state yX4_state, Cond.code yX4_state cX4_state 2 (some .int), Cond.methodLink RL 202 yX5_state, Cond.instanceMethod yX5_state, Cond.selects RX5 yX5_state yX5_state, Cond.code yX5_state cX5_state 2 (some .int), Cond.methodLink RX5 174 yX5_asksBooking, Cond.instanceMethod yX5_asksBooking, Cond.selects RX5 yX5_asksBooking yX5_asksBooking, Cond.code yX5_asksBooking cX5_asksBooking 2 (some .boolean), Cond.methodLink RL 203 yL_wagons, Cond.static yL_wagons]
def wsL_law0_r32 : List Cond := [Cond.codeWith yL_wagons cL_wagons 4 (some .int) [(0, 9, 12, 36)], Cond.methodLink RL 93 yX4_wagons, Cond.instanceMethod yX4_wagons, Cond.selects RX4 yX4_wagons yX4_wagons, Cond.code yX4_wagons cX4_wagons 2 (some .int), Cond.methodLink RL 205 yX5_wagons, Cond.instanceMethod yX5_wagons, Cond.selects RX5 yX5_wagons yX5_wagons, Cond.code yX5_wagons cX5_wagons 2 (some .int), Cond.methodLink RL 206 yL_wagonOf, Cond.static yL_wagonOf, Cond.codeWith yL_wagonOf cL_wagonOf 5 (some .int) [(0, 10, 13, 36)], Cond.methodLink RL 96 yX4_wagonOf, Cond.instanceMethod yX4_wagonOf, Cond.selects RX4 yX4_wagonOf yX4_wagonOf, Cond.code yX4_wagonOf cX4_wagonOf 3 (some .int), Cond.methodLink RX4 266 yX1_get, Cond.methodLink RL 208 yX5_wagonOf, Cond.instanceMethod yX5_wagonOf, Cond.selects RX5 yX5_wagonOf yX5_wagonOf, Cond.code yX5_wagonOf cX5_wagonOf 3 (some .int), Cond.methodLink RL 209 yL_lapses, Cond.static yL_lapses, Cond.codeWith yL_lapses cL_lapses 4 (some .int) [(0, 9, 12, 36), (0, 9, 15, 15)]]
def wsL_law0_r33 : List Cond := [Cond.methodLink RL 99 yX4_lapses, Cond.instanceMethod yX4_lapses, Cond.selects RX4 yX4_lapses yX4_lapses, Cond.code yX4_lapses cX4_lapses 2 (some .int), Cond.methodLink RX4 269 yX1_lapseTick, Cond.instanceMethod yX1_lapseTick, Cond.selects RX1 yX1_lapseTick yX1_lapseTick, Cond.code yX1_lapseTick cX1_lapseTick 2 (some .int), Cond.methodLink RL 211 yX5_lapses, Cond.instanceMethod yX5_lapses, Cond.selects RX5 yX5_lapses yX5_lapses, Cond.code yX5_lapses cX5_lapses 2 (some .int), Cond.methodLink RL 212 yL_depart, Cond.static yL_depart, Cond.codeWith yL_depart cL_depart 6 (some .int) [(0, 12, 15, 13), (0, 12, 19, 15)], Cond.methodLink RL 102 yX4_depart, Cond.instanceMethod yX4_depart, Cond.selects RX4 yX4_depart yX4_depart, Cond.code yX4_depart cX4_depart 6 (some .int), Cond.fieldLink RX4 274 "TrunkYards" "departed" "I", Cond.methodLink RX4 277 yX4_canDepart, Cond.instanceMethod yX4_canDepart, Cond.selects RX4 yX4_canDepart yX4_canDepart, Cond.code yX4_canDepart cX4_canDepart 5 (some .boolean)]
def wsL_law0_r34 : List Cond := [Cond.methodLink RX4 341 yX4_standsWhole, Cond.instanceMethod yX4_standsWhole, Cond.selects RX4 yX4_standsWhole yX4_standsWhole, Cond.code yX4_standsWhole cX4_standsWhole 5 (some .boolean), Cond.methodLink RX4 282 yX4_load, Cond.instanceMethod yX4_load, Cond.selects RX4 yX4_load yX4_load, Cond.code yX4_load cX4_load 5 none, Cond.methodLink RL 214 yX5_depart, Cond.instanceMethod yX5_depart, Cond.selects RX5 yX5_depart yX5_depart, Cond.code yX5_depart cX5_depart 7 (some .int), Cond.fieldLink RX5 183 "TrunkYardsModel" "trains" "I", Cond.methodLink RX5 180 yX5_canDepart, Cond.instanceMethod yX5_canDepart, Cond.selects RX5 yX5_canDepart yX5_canDepart, Cond.code yX5_canDepart cX5_canDepart 7 (some .boolean), Cond.methodLink RX5 177 yX5_areOn, Cond.instanceMethod yX5_areOn, Cond.selects RX5 yX5_areOn yX5_areOn, Cond.code yX5_areOn cX5_areOn 5 (some .boolean), Cond.methodLink RL 215 yL_arrive, Cond.static yL_arrive, Cond.codeWith yL_arrive cL_arrive 5 (some .int) [(0, 10, 13, 36), (0, 10, 17, 13), (0, 10, 21, 15)]]
def wsL_law0_r35 : List Cond := [Cond.methodLink RL 105 yX4_arrive, Cond.instanceMethod yX4_arrive, Cond.selects RX4 yX4_arrive yX4_arrive, Cond.code yX4_arrive cX4_arrive 6 (some .int), Cond.methodLink RX4 294 yX4_unload, Cond.instanceMethod yX4_unload, Cond.selects RX4 yX4_unload yX4_unload, Cond.code yX4_unload cX4_unload 4 none, Cond.methodLink RL 217 yX5_arrive, Cond.instanceMethod yX5_arrive, Cond.selects RX5 yX5_arrive yX5_arrive, Cond.code yX5_arrive cX5_arrive 5 (some .int), Cond.methodLink RL 218 yX4_trains, Cond.instanceMethod yX4_trains, Cond.selects RX4 yX4_trains yX4_trains, Cond.code yX4_trains cX4_trains 1 (some .int), Cond.methodLink RL 221 yX5_trains, Cond.instanceMethod yX5_trains, Cond.selects RX5 yX5_trains yX5_trains, Cond.code yX5_trains cX5_trains 1 (some .int)]
def wsL_law0 : List Cond := (wsL_law0_r1 ++ (wsL_law0_r2 ++ (wsL_law0_r3 ++ (wsL_law0_r4 ++ (wsL_law0_r5 ++ (wsL_law0_r6 ++ (wsL_law0_r7 ++ (wsL_law0_r8 ++ (wsL_law0_r9 ++ (wsL_law0_r10 ++ (wsL_law0_r11 ++ (wsL_law0_r12 ++ (wsL_law0_r13 ++ (wsL_law0_r14 ++ (wsL_law0_r15 ++ (wsL_law0_r16 ++ (wsL_law0_r17 ++ (wsL_law0_r18 ++ (wsL_law0_r19 ++ (wsL_law0_r20 ++ (wsL_law0_r21 ++ (wsL_law0_r22 ++ (wsL_law0_r23 ++ (wsL_law0_r24 ++ (wsL_law0_r25 ++ (wsL_law0_r26 ++ (wsL_law0_r27 ++ (wsL_law0_r28 ++ (wsL_law0_r29 ++ (wsL_law0_r30 ++ (wsL_law0_r31 ++ (wsL_law0_r32 ++ (wsL_law0_r33 ++ (wsL_law0_r34 ++ wsL_law0_r35)))))))))))))))))))))))))))))))))) ++ wsX40 ++ wsX50 ++ wsX20 ++ wsX00 ++ wsX10 ++ wsX30 ++ ([] : List Cond)
def wsL_law : List Cond := wsL_law0 ++ (vx_atS RX4 77 "java/lang/IllegalStateException" ["java/lang/RuntimeException", "java/lang/Exception"]).filter goodWord ++ (vx_atS RX4 90 "java/lang/IllegalArgumentException" ["java/lang/RuntimeException", "java/lang/Exception"]).filter goodWord ++ (vx_atS RX4 265 "java/lang/IndexOutOfBoundsException" ["java/lang/RuntimeException", "java/lang/Exception"]).filter goodWord
set_option maxRecDepth 20000 in
theorem wsL_law_in0 : ∀ w ∈ wsL_law0, w ∈ lw_tbl := fun w h => (goodIn_p wsL_law0 [54, 57, 62, 76, 95, 99, 132, 824, 226, 229, 232, 235, 306, 310, 330, 334, 338, 924, 927, 930, 933, 937, 920, 345, 350, 355, 359, 941, 367, 370, 376, 945, 383, 386, 949, 952, 394, 956, 402, 405, 960, 964, 428, 432, 436, 968, 446, 450, 455, 972, 976, 980, 463, 984, 470, 474, 988, 992, 481, 484, 489, 493, 498, 502, 506, 510, 514, 517, 996, 1000, 1004, 1008, 1012, 1015, 524, 528, 532, 538, 542, 547, 551, 555, 560, 564, 568, 572, 576, 580, 584, 1019, 1023, 1027, 1031, 1035, 591, 596, 1039, 603, 607, 213, 612, 616, 620, 624, 629, 1043, 1047, 1051, 636, 641, 645, 1055, 652, 656, 1059, 1063, 663, 1067, 670, 674, 1071, 205, 1075, 681, 684, 687, 693, 698, 702, 706, 1079, 1082, 713, 1086, 721, 1090, 728, 735, 1094, 742, 748, 1098, 209, 1102, 756, 1106, 1110, 763, 1114, 770, 1118, 779, 784, 1122, 791, 796, 800, 805, 1126, 1130, 1134, 812, 819, 1138, 217, 1142] (by decide +kernel) (by decide +kernel) w h).1
theorem wsL_law_x0 : ∀ w ∈ (vx_atS RX4 77 "java/lang/IllegalStateException" ["java/lang/RuntimeException", "java/lang/Exception"]).filter goodWord, w ∈ lw_tbl := by decide +kernel
theorem wsL_law_x1 : ∀ w ∈ (vx_atS RX4 90 "java/lang/IllegalArgumentException" ["java/lang/RuntimeException", "java/lang/Exception"]).filter goodWord, w ∈ lw_tbl := by decide +kernel
theorem wsL_law_x2 : ∀ w ∈ (vx_atS RX4 265 "java/lang/IndexOutOfBoundsException" ["java/lang/RuntimeException", "java/lang/Exception"]).filter goodWord, w ∈ lw_tbl := by decide +kernel
theorem wsL_law_in : ∀ w ∈ wsL_law, w ∈ lw_tbl := fun w h => (List.mem_append.mp h).elim (fun h => (List.mem_append.mp h).elim (fun h => (List.mem_append.mp h).elim (fun h => wsL_law_in0 w h) (fun h => wsL_law_x0 w h)) (fun h => wsL_law_x1 w h)) (fun h => wsL_law_x2 w h)
theorem inlX0 : ∀ w ∈ wsX00, w ∈ wsL_law := fun _ h => List.mem_append_left _ (List.mem_append_left _ (List.mem_append_left _ (List.mem_append_left _ (List.mem_append_left _ (List.mem_append_left _ (List.mem_append_right _ h))))))
theorem inX0 : ∀ w ∈ wsX00, w ∈ lw_tbl := fun w h => wsL_law_in w (inlX0 w h)
theorem inlX1 : ∀ w ∈ wsX10, w ∈ wsL_law := fun _ h => List.mem_append_left _ (List.mem_append_left _ (List.mem_append_left _ (List.mem_append_left _ (List.mem_append_left _ (List.mem_append_right _ h)))))
theorem inX1 : ∀ w ∈ wsX10, w ∈ lw_tbl := fun w h => wsL_law_in w (inlX1 w h)
theorem inlX2 : ∀ w ∈ wsX20, w ∈ wsL_law := fun _ h => List.mem_append_left _ (List.mem_append_left _ (List.mem_append_left _ (List.mem_append_left _ (List.mem_append_left _ (List.mem_append_left _ (List.mem_append_left _ (List.mem_append_right _ h)))))))
theorem inX2 : ∀ w ∈ wsX20, w ∈ lw_tbl := fun w h => wsL_law_in w (inlX2 w h)
theorem inlX3 : ∀ w ∈ wsX30, w ∈ wsL_law := fun _ h => List.mem_append_left _ (List.mem_append_left _ (List.mem_append_left _ (List.mem_append_left _ (List.mem_append_right _ h))))
theorem inX3 : ∀ w ∈ wsX30, w ∈ lw_tbl := fun w h => wsL_law_in w (inlX3 w h)
theorem inlX4 : ∀ w ∈ wsX40, w ∈ wsL_law := fun _ h => List.mem_append_left _ (List.mem_append_left _ (List.mem_append_left _ (List.mem_append_left _ (List.mem_append_left _ (List.mem_append_left _ (List.mem_append_left _ (List.mem_append_left _ (List.mem_append_left _ (List.mem_append_right _ h)))))))))
theorem inX4 : ∀ w ∈ wsX40, w ∈ lw_tbl := fun w h => wsL_law_in w (inlX4 w h)
theorem inlX5 : ∀ w ∈ wsX50, w ∈ wsL_law := fun _ h => List.mem_append_left _ (List.mem_append_left _ (List.mem_append_left _ (List.mem_append_left _ (List.mem_append_left _ (List.mem_append_left _ (List.mem_append_left _ (List.mem_append_left _ (List.mem_append_right _ h))))))))
theorem inX5 : ∀ w ∈ wsX50, w ∈ lw_tbl := fun w h => wsL_law_in w (inlX5 w h)
theorem inJx145de : ∀ w ∈ wsJx145de0, w ∈ lw_tbl := by decide +kernel
theorem inJ0 : ∀ w ∈ wsJ00, w ∈ lw_tbl := by decide +kernel
theorem inJ7 : ∀ w ∈ wsJ70, w ∈ lw_tbl := by decide +kernel
set_option maxRecDepth 20000 in
theorem ggX0_notePlacing_X0_noteMove : GoodIn wsX0_notePlacing wsX0_noteMove := goodIn_r _ [5, 6, 7, 8, 9, 10, 11, 12, 13] (by decide +kernel) (by decide +kernel)
set_option maxRecDepth 20000 in
theorem gX0_notePlacing_X0_noteMove : GoodIn wsX0_notePlacing (wsV RX0 21 RX0 yX0_noteMove wsX0_noteMove) := goodIn_app (goodIn_of _ (by decide +kernel)) ggX0_notePlacing_X0_noteMove
set_option maxRecDepth 20000 in
theorem ggX0_replay_X2_clear : GoodIn wsX0_replay wsX2_clear := goodIn_r _ [9, 10, 11, 12, 13, 14, 28, 29] (by decide +kernel) (by decide +kernel)
set_option maxRecDepth 20000 in
theorem gX0_replay_X2_clear : GoodIn wsX0_replay (wsV RX0 29 RX2 yX2_clear wsX2_clear) := goodIn_app (goodIn_of _ (by decide +kernel)) ggX0_replay_X2_clear
set_option maxRecDepth 20000 in
theorem ggX0_replay_X2_put : GoodIn wsX0_replay wsX2_put := goodIn_r _ [18, 19, 10, 28, 29] (by decide +kernel) (by decide +kernel)
set_option maxRecDepth 20000 in
theorem gX0_replay_X2_put : GoodIn wsX0_replay (wsV RX0 34 RX2 yX2_put wsX2_put) := goodIn_app (goodIn_of _ (by decide +kernel)) ggX0_replay_X2_put
set_option maxRecDepth 20000 in
theorem ggX0_replay_X2_move : GoodIn wsX0_replay wsX2_move := goodIn_r _ [23, 10, 19, 28, 29] (by decide +kernel) (by decide +kernel)
set_option maxRecDepth 20000 in
theorem gX0_replay_X2_move : GoodIn wsX0_replay (wsV RX0 38 RX2 yX2_move wsX2_move) := goodIn_app (goodIn_of _ (by decide +kernel)) ggX0_replay_X2_move
set_option maxRecDepth 20000 in
theorem ggX1_init_J7_fill_53178 : GoodIn wsX1_init wsJ7_fill_53178 := goodIn_r _ [16] (by decide +kernel) (by decide +kernel)
set_option maxRecDepth 20000 in
theorem gX1_init_J7_fill_53178 : GoodIn wsX1_init (va_wsS RX1 36 yJ7_fill_53178 wsJ7_fill_53178) := goodIn_app (goodIn_of _ (by decide +kernel)) ggX1_init_J7_fill_53178
set_option maxRecDepth 20000 in
theorem ggX1_release_X1_get : GoodIn wsX1_release wsX1_get := goodIn_r _ [8, 9, 10, 11, 12, 13, 14, 15, 16, 17, 18] (by decide +kernel) (by decide +kernel)
set_option maxRecDepth 20000 in
theorem gX1_release_X1_get : GoodIn wsX1_release (wsV RX1 46 RX1 yX1_get wsX1_get) := goodIn_app (goodIn_of _ (by decide +kernel)) ggX1_release_X1_get
set_option maxRecDepth 20000 in
theorem ggX1_lapseAll_X1_release : GoodIn wsX1_lapseAll wsX1_release := goodIn_r _ [8, 2, 9, 10, 11, 12, 13, 7, 14, 15, 16, 17, 18, 19, 20, 21, 22, 23, 24] (by decide +kernel) (by decide +kernel)
set_option maxRecDepth 20000 in
theorem gX1_lapseAll_X1_release : GoodIn wsX1_lapseAll (wsV RX1 50 RX1 yX1_release wsX1_release) := goodIn_app (goodIn_of _ (by decide +kernel)) ggX1_lapseAll_X1_release
set_option maxRecDepth 20000 in
theorem ggX2_findOnTracks_X2_get : GoodIn wsX2_findOnTracks wsX2_get := goodIn_r _ [6, 7, 8, 9] (by decide +kernel) (by decide +kernel)
set_option maxRecDepth 20000 in
theorem gX2_findOnTracks_X2_get : GoodIn wsX2_findOnTracks (wsV RX2 18 RX2 yX2_get wsX2_get) := goodIn_app (goodIn_of _ (by decide +kernel)) ggX2_findOnTracks_X2_get
set_option maxRecDepth 20000 in
theorem ggX2_clear_J7_fill_53178 : GoodIn wsX2_clear wsJ7_fill_53178 := goodIn_r _ [5] (by decide +kernel) (by decide +kernel)
set_option maxRecDepth 20000 in
theorem gX2_clear_J7_fill_53178 : GoodIn wsX2_clear (va_wsS RX2 22 yJ7_fill_53178 wsJ7_fill_53178) := goodIn_app (goodIn_of _ (by decide +kernel)) ggX2_clear_J7_fill_53178
set_option maxRecDepth 20000 in
theorem ggX3_init_J7_fill_53178 : GoodIn wsX3_init wsJ7_fill_53178 := goodIn_r _ [16] (by decide +kernel) (by decide +kernel)
set_option maxRecDepth 20000 in
theorem gX3_init_J7_fill_53178 : GoodIn wsX3_init (va_wsS RX3 36 yJ7_fill_53178 wsJ7_fill_53178) := goodIn_app (goodIn_of _ (by decide +kernel)) ggX3_init_J7_fill_53178
set_option maxRecDepth 20000 in
theorem ggX3_begin_X3_callsTo : GoodIn wsX3_begin wsX3_callsTo := goodIn_r _ [6, 7, 8, 30, 31, 32, 33, 34, 35, 36, 37, 38] (by decide +kernel) (by decide +kernel)
set_option maxRecDepth 20000 in
theorem gX3_begin_X3_callsTo : GoodIn wsX3_begin (wsV RX3 46 RX3 yX3_callsTo wsX3_callsTo) := goodIn_app (goodIn_of _ (by decide +kernel)) ggX3_begin_X3_callsTo
set_option maxRecDepth 20000 in
theorem ggX3_begin_X3_connect : GoodIn wsX3_begin wsX3_connect := goodIn_r _ [12, 13, 14, 8, 15, 16, 17, 7, 18, 19, 20, 5, 21, 22, 30, 31, 32, 33, 34, 35, 36, 37, 38] (by decide +kernel) (by decide +kernel)
set_option maxRecDepth 20000 in
theorem gX3_begin_X3_connect : GoodIn wsX3_begin (wsV RX3 50 RX3 yX3_connect wsX3_connect) := goodIn_app (goodIn_of _ (by decide +kernel)) ggX3_begin_X3_connect
set_option maxRecDepth 20000 in
theorem ggX3_begin_X3_freeTrunk : GoodIn wsX3_begin wsX3_freeTrunk := goodIn_r _ [26, 22, 27, 28, 29, 30, 31, 32, 33, 34, 35, 36, 37, 38] (by decide +kernel) (by decide +kernel)
set_option maxRecDepth 20000 in
theorem gX3_begin_X3_freeTrunk : GoodIn wsX3_begin (wsV RX3 54 RX3 yX3_freeTrunk wsX3_freeTrunk) := goodIn_app (goodIn_of _ (by decide +kernel)) ggX3_begin_X3_freeTrunk
set_option maxRecDepth 20000 in
theorem ggX3_end_X3_occupy : GoodIn wsX3_end wsX3_occupy := goodIn_r _ [9, 10, 11, 12, 13, 14, 15, 16, 17, 18, 19] (by decide +kernel) (by decide +kernel)
set_option maxRecDepth 20000 in
theorem gX3_end_X3_occupy : GoodIn wsX3_end (wsV RX3 58 RX3 yX3_occupy wsX3_occupy) := goodIn_app (goodIn_of _ (by decide +kernel)) ggX3_end_X3_occupy
set_option maxRecDepth 20000 in
theorem ggX3_connect_X3_occupy : GoodIn wsX3_connect wsX3_occupy := goodIn_r _ [12, 13, 14, 15, 16, 17, 18, 19, 20, 21, 22] (by decide +kernel) (by decide +kernel)
set_option maxRecDepth 20000 in
theorem gX3_connect_X3_occupy : GoodIn wsX3_connect (wsV RX3 58 RX3 yX3_occupy wsX3_occupy) := goodIn_app (goodIn_of _ (by decide +kernel)) ggX3_connect_X3_occupy
set_option maxRecDepth 20000 in
theorem ggX3_freeTrunk_X4_slotOf : GoodIn wsX3_freeTrunk wsX4_slotOf := goodIn_r _ [4] (by decide +kernel) (by decide +kernel)
set_option maxRecDepth 20000 in
theorem gX3_freeTrunk_X4_slotOf_n62 : GoodIn wsX3_freeTrunk (wsX4_slotOf) := ggX3_freeTrunk_X4_slotOf
set_option maxRecDepth 20000 in
theorem ggX4_init_X2_init : GoodIn wsX4_init wsX2_init := goodIn_r _ [27, 28, 2, 3, 21, 29, 30, 67, 68] (by decide +kernel) (by decide +kernel)
set_option maxRecDepth 20000 in
theorem gX4_init_X2_init_n11 : GoodIn wsX4_init (wsX2_init) := ggX4_init_X2_init
set_option maxRecDepth 20000 in
theorem ggX4_init_X0_init : GoodIn wsX4_init wsX0_init := goodIn_r _ [32, 33, 2, 3, 21, 34, 35, 36, 81, 82, 83, 84] (by decide +kernel) (by decide +kernel)
set_option maxRecDepth 20000 in
theorem gX4_init_X0_init_n21 : GoodIn wsX4_init (wsX0_init) := ggX4_init_X0_init
set_option maxRecDepth 20000 in
theorem ggX4_init_X1_init : GoodIn wsX4_init wsX1_init := goodIn_r _ [39, 40, 2, 3, 21, 41, 42, 43, 44, 45, 46, 47, 48, 49, 50, 51, 52, 85, 86, 87, 88, 89, 90, 91, 92, 93] (by decide +kernel) (by decide +kernel)
set_option maxRecDepth 20000 in
theorem gX4_init_X1_init : GoodIn wsX4_init (wsX1_init) := ggX4_init_X1_init
set_option maxRecDepth 20000 in
theorem ggX4_init_X3_init : GoodIn wsX4_init wsX3_init := goodIn_r _ [55, 56, 2, 3, 21, 57, 58, 59, 60, 61, 62, 63, 64, 65, 50, 51, 52, 94, 95, 96, 97, 98, 99, 100, 101, 102] (by decide +kernel) (by decide +kernel)
set_option maxRecDepth 20000 in
theorem gX4_init_X3_init : GoodIn wsX4_init (wsX3_init) := ggX4_init_X3_init
set_option maxRecDepth 20000 in
theorem ggX4_init_J7_fill_53178 : GoodIn wsX4_init wsJ7_fill_53178 := goodIn_r _ [52] (by decide +kernel) (by decide +kernel)
set_option maxRecDepth 20000 in
theorem gX4_init_J7_fill_53178 : GoodIn wsX4_init (va_wsS RX4 44 yJ7_fill_53178 wsJ7_fill_53178) := goodIn_app (goodIn_of _ (by decide +kernel)) ggX4_init_J7_fill_53178
set_option maxRecDepth 20000 in
theorem ggX4_wagon_X4_requireTrack : GoodIn wsX4_wagon wsX4_requireTrack := goodIn_ca (goodIn_r _ [9, 10, 11, 12, 13, 8, 14, 15, 16, 17] (by decide +kernel) (by decide +kernel)) (goodIn_sub (fun _ h => List.mem_cons_of_mem _ (List.mem_append_right _ h)) (by decide +kernel))
set_option maxRecDepth 20000 in
theorem gX4_wagon_X4_requireTrack : GoodIn wsX4_wagon (va_wsS RX4 57 yX4_requireTrack wsX4_requireTrack) := goodIn_app (goodIn_of _ (by decide +kernel)) ggX4_wagon_X4_requireTrack
set_option maxRecDepth 20000 in
theorem ggX4_wagon_X4_rowOf : GoodIn wsX4_wagon wsX4_rowOf := goodIn_r _ [20] (by decide +kernel) (by decide +kernel)
set_option maxRecDepth 20000 in
theorem gX4_wagon_X4_rowOf : GoodIn wsX4_wagon (va_wsS RX4 61 yX4_rowOf wsX4_rowOf) := goodIn_app (goodIn_of _ (by decide +kernel)) ggX4_wagon_X4_rowOf
set_option maxRecDepth 20000 in
theorem ggX4_wagon_X2_hasRoom : GoodIn wsX4_wagon wsX2_hasRoom := goodIn_r _ [25, 26, 57, 58] (by decide +kernel) (by decide +kernel)
set_option maxRecDepth 20000 in
theorem gX4_wagon_X2_hasRoom : GoodIn wsX4_wagon (wsV RX4 69 RX2 yX2_hasRoom wsX2_hasRoom) := goodIn_app (goodIn_of _ (by decide +kernel)) ggX4_wagon_X2_hasRoom
set_option maxRecDepth 20000 in
theorem ggX4_wagon_X2_put : GoodIn wsX4_wagon wsX2_put := goodIn_r _ [30, 31, 26, 57, 58] (by decide +kernel) (by decide +kernel)
set_option maxRecDepth 20000 in
theorem gX4_wagon_X2_put : GoodIn wsX4_wagon (wsV RX4 80 RX2 yX2_put wsX2_put) := goodIn_app (goodIn_of _ (by decide +kernel)) ggX4_wagon_X2_put
set_option maxRecDepth 20000 in
theorem ggX4_wagon_X0_notePlacing : GoodIn wsX4_wagon wsX0_notePlacing := goodIn_r _ [36, 37, 38, 39, 35, 40, 41, 42, 43, 44, 59, 60, 61, 62] (by decide +kernel) (by decide +kernel)
set_option maxRecDepth 20000 in
theorem gX4_wagon_X0_notePlacing : GoodIn wsX4_wagon (wsV RX4 83 RX0 yX0_notePlacing wsX0_notePlacing) := goodIn_app (goodIn_of _ (by decide +kernel)) ggX4_wagon_X0_notePlacing
set_option maxRecDepth 20000 in
theorem ggX4_shunt_X4_requireTrack : GoodIn wsX4_shunt wsX4_requireTrack := goodIn_ca (goodIn_r _ [9, 1, 2, 10, 11, 8, 12, 13, 14, 15] (by decide +kernel) (by decide +kernel)) (goodIn_sub (fun _ h => List.mem_cons_of_mem _ (List.mem_append_left _ (List.mem_append_right _ h))) (by decide +kernel))
set_option maxRecDepth 20000 in
theorem gX4_shunt_X4_requireTrack : GoodIn wsX4_shunt (va_wsS RX4 57 yX4_requireTrack wsX4_requireTrack) := goodIn_app (goodIn_of _ (by decide +kernel)) ggX4_shunt_X4_requireTrack
set_option maxRecDepth 20000 in
theorem ggX4_shunt_X4_rowOf : GoodIn wsX4_shunt wsX4_rowOf := goodIn_r _ [18] (by decide +kernel) (by decide +kernel)
set_option maxRecDepth 20000 in
theorem gX4_shunt_X4_rowOf : GoodIn wsX4_shunt (va_wsS RX4 61 yX4_rowOf wsX4_rowOf) := goodIn_app (goodIn_of _ (by decide +kernel)) ggX4_shunt_X4_rowOf
set_option maxRecDepth 20000 in
theorem ggX4_shunt_X2_count : GoodIn wsX4_shunt wsX2_count := goodIn_r _ [23, 24, 60, 61] (by decide +kernel) (by decide +kernel)
set_option maxRecDepth 20000 in
theorem gX4_shunt_X2_count : GoodIn wsX4_shunt (wsV RX4 91 RX2 yX2_count wsX2_count) := goodIn_app (goodIn_of _ (by decide +kernel)) ggX4_shunt_X2_count
set_option maxRecDepth 20000 in
theorem ggX4_shunt_X2_hasRoom : GoodIn wsX4_shunt wsX2_hasRoom := goodIn_r _ [28, 24, 60, 61] (by decide +kernel) (by decide +kernel)
set_option maxRecDepth 20000 in
theorem gX4_shunt_X2_hasRoom : GoodIn wsX4_shunt (wsV RX4 69 RX2 yX2_hasRoom wsX2_hasRoom) := goodIn_app (goodIn_of _ (by decide +kernel)) ggX4_shunt_X2_hasRoom
set_option maxRecDepth 20000 in
theorem ggX4_shunt_X4_moveLast : GoodIn wsX4_shunt wsX4_moveLast := goodIn_r _ [32, 5, 33, 34, 35, 36, 22, 37, 24, 38, 39, 40, 41, 42, 43, 44, 45, 46, 47, 48, 49, 50, 51, 52, 53, 54, 55, 56, 57, 58, 59, 60, 61, 62, 63, 64, 65] (by decide +kernel) (by decide +kernel)
set_option maxRecDepth 20000 in
theorem gX4_shunt_X4_moveLast : GoodIn wsX4_shunt (wsV RX4 97 RX4 yX4_moveLast wsX4_moveLast) := goodIn_app (goodIn_of _ (by decide +kernel)) ggX4_shunt_X4_moveLast
set_option maxRecDepth 20000 in
theorem ggX4_wash_X4_requireYard : GoodIn wsX4_wash wsX4_requireYard := goodIn_ca (goodIn_r _ [8, 9, 10, 11, 12, 7, 13] (by decide +kernel) (by decide +kernel)) (goodIn_sub (fun _ h => List.mem_cons_of_mem _ (List.mem_append_right _ h)) (by decide +kernel))
set_option maxRecDepth 20000 in
theorem gX4_wash_X4_requireYard : GoodIn wsX4_wash (va_wsS RX4 101 yX4_requireYard wsX4_requireYard) := goodIn_app (goodIn_of _ (by decide +kernel)) ggX4_wash_X4_requireYard
set_option maxRecDepth 20000 in
theorem ggX4_wash_X4_rowOf : GoodIn wsX4_wash wsX4_rowOf := goodIn_r _ [16] (by decide +kernel) (by decide +kernel)
set_option maxRecDepth 20000 in
theorem gX4_wash_X4_rowOf : GoodIn wsX4_wash (va_wsS RX4 61 yX4_rowOf wsX4_rowOf) := goodIn_app (goodIn_of _ (by decide +kernel)) ggX4_wash_X4_rowOf
set_option maxRecDepth 20000 in
theorem ggX4_wash_X2_count : GoodIn wsX4_wash wsX2_count := goodIn_r _ [21, 22, 40, 41] (by decide +kernel) (by decide +kernel)
set_option maxRecDepth 20000 in
theorem gX4_wash_X2_count : GoodIn wsX4_wash (wsV RX4 91 RX2 yX2_count wsX2_count) := goodIn_app (goodIn_of _ (by decide +kernel)) ggX4_wash_X2_count
set_option maxRecDepth 20000 in
theorem ggX4_wash_X2_get : GoodIn wsX4_wash wsX2_get := goodIn_r _ [26, 27, 40, 41] (by decide +kernel) (by decide +kernel)
set_option maxRecDepth 20000 in
theorem gX4_wash_X2_get : GoodIn wsX4_wash (wsV RX4 107 RX2 yX2_get wsX2_get) := goodIn_app (goodIn_of _ (by decide +kernel)) ggX4_wash_X2_get
set_option maxRecDepth 20000 in
theorem ggX4_follow_X4_isGrain : GoodIn wsX4_follow wsX4_isGrain := goodIn_r _ [7] (by decide +kernel) (by decide +kernel)
set_option maxRecDepth 20000 in
theorem gX4_follow_X4_isGrain : GoodIn wsX4_follow (va_wsS RX4 110 yX4_isGrain wsX4_isGrain) := goodIn_app (goodIn_of _ (by decide +kernel)) ggX4_follow_X4_isGrain
set_option maxRecDepth 20000 in
theorem ggX4_on_X4_requireTrack : GoodIn wsX4_on wsX4_requireTrack := goodIn_ca (goodIn_r _ [5, 6, 7, 8, 9, 4, 10, 11, 12, 13] (by decide +kernel) (by decide +kernel)) (goodIn_sub (fun _ h => List.mem_cons_of_mem _ (List.mem_append_right _ h)) (by decide +kernel))
set_option maxRecDepth 20000 in
theorem gX4_on_X4_requireTrack : GoodIn wsX4_on (va_wsS RX4 57 yX4_requireTrack wsX4_requireTrack) := goodIn_app (goodIn_of _ (by decide +kernel)) ggX4_on_X4_requireTrack
set_option maxRecDepth 20000 in
theorem ggX4_on_X4_rowOf : GoodIn wsX4_on wsX4_rowOf := goodIn_r _ [16] (by decide +kernel) (by decide +kernel)
set_option maxRecDepth 20000 in
theorem gX4_on_X4_rowOf : GoodIn wsX4_on (va_wsS RX4 61 yX4_rowOf wsX4_rowOf) := goodIn_app (goodIn_of _ (by decide +kernel)) ggX4_on_X4_rowOf
set_option maxRecDepth 20000 in
theorem ggX4_on_X2_count : GoodIn wsX4_on wsX2_count := goodIn_r _ [21, 22, 35, 36] (by decide +kernel) (by decide +kernel)
set_option maxRecDepth 20000 in
theorem gX4_on_X2_count : GoodIn wsX4_on (wsV RX4 91 RX2 yX2_count wsX2_count) := goodIn_app (goodIn_of _ (by decide +kernel)) ggX4_on_X2_count
set_option maxRecDepth 20000 in
theorem ggX4_at_X4_requireTrack : GoodIn wsX4_at wsX4_requireTrack := goodIn_ca (goodIn_r _ [5, 6, 7, 8, 9, 4, 10, 11, 12, 13] (by decide +kernel) (by decide +kernel)) (goodIn_sub (fun _ h => List.mem_cons_of_mem _ (List.mem_append_left _ (List.mem_append_right _ h))) (by decide +kernel))
set_option maxRecDepth 20000 in
theorem gX4_at_X4_requireTrack : GoodIn wsX4_at (va_wsS RX4 57 yX4_requireTrack wsX4_requireTrack) := goodIn_app (goodIn_of _ (by decide +kernel)) ggX4_at_X4_requireTrack
set_option maxRecDepth 20000 in
theorem ggX4_at_X4_rowOf : GoodIn wsX4_at wsX4_rowOf := goodIn_r _ [16] (by decide +kernel) (by decide +kernel)
set_option maxRecDepth 20000 in
theorem gX4_at_X4_rowOf : GoodIn wsX4_at (va_wsS RX4 61 yX4_rowOf wsX4_rowOf) := goodIn_app (goodIn_of _ (by decide +kernel)) ggX4_at_X4_rowOf
set_option maxRecDepth 20000 in
theorem ggX4_at_X4_wagonIn : GoodIn wsX4_at wsX4_wagonIn := goodIn_ca (goodIn_r _ [19, 20, 21, 22, 23, 24, 25, 26, 27, 28, 29, 30, 31, 32, 45, 46] (by decide +kernel) (by decide +kernel)) (goodIn_sub (fun _ h => List.mem_cons_of_mem _ (List.mem_append_right _ h)) (by decide +kernel))
set_option maxRecDepth 20000 in
theorem gX4_at_X4_wagonIn : GoodIn wsX4_at (va_wsS RX4 116 yX4_wagonIn wsX4_wagonIn) := goodIn_app (goodIn_of _ (by decide +kernel)) ggX4_at_X4_wagonIn
set_option maxRecDepth 20000 in
theorem ggX4_atByReplay_X4_requireTrack : GoodIn wsX4_atByReplay wsX4_requireTrack := goodIn_ca (goodIn_r _ [6, 7, 8, 9, 10, 5, 11, 12, 13, 14] (by decide +kernel) (by decide +kernel)) (goodIn_sub (fun _ h => List.mem_cons_of_mem _ (List.mem_append_left _ (List.mem_append_right _ h))) (by decide +kernel))
set_option maxRecDepth 20000 in
theorem gX4_atByReplay_X4_requireTrack : GoodIn wsX4_atByReplay (va_wsS RX4 57 yX4_requireTrack wsX4_requireTrack) := goodIn_app (goodIn_of _ (by decide +kernel)) ggX4_atByReplay_X4_requireTrack
set_option maxRecDepth 20000 in
theorem ggX4_atByReplay_X0_replay : GoodIn wsX4_atByReplay wsX0_replay := goodIn_r _ [19, 20, 21, 22, 23, 24, 25, 26, 27, 28, 29, 30, 31, 32, 33, 34, 35, 36, 37, 38, 39, 40, 41, 42, 71, 72, 73, 74, 75, 76] (by decide +kernel) (by decide +kernel)
set_option maxRecDepth 20000 in
theorem gX4_atByReplay_X0_replay : GoodIn wsX4_atByReplay (wsV RX4 120 RX0 yX0_replay wsX0_replay) := goodIn_app (goodIn_of _ (by decide +kernel)) ggX4_atByReplay_X0_replay
set_option maxRecDepth 20000 in
theorem ggX4_atByReplay_X4_rowOf : GoodIn wsX4_atByReplay wsX4_rowOf := goodIn_r _ [45] (by decide +kernel) (by decide +kernel)
set_option maxRecDepth 20000 in
theorem gX4_atByReplay_X4_rowOf : GoodIn wsX4_atByReplay (va_wsS RX4 61 yX4_rowOf wsX4_rowOf) := goodIn_app (goodIn_of _ (by decide +kernel)) ggX4_atByReplay_X4_rowOf
set_option maxRecDepth 20000 in
theorem ggX4_atByReplay_X4_wagonIn : GoodIn wsX4_atByReplay wsX4_wagonIn := goodIn_ca (goodIn_r _ [48, 49, 50, 51, 52, 53, 27, 54, 29, 55, 56, 57, 58, 38, 75, 76] (by decide +kernel) (by decide +kernel)) (goodIn_sub (fun _ h => List.mem_cons_of_mem _ (List.mem_append_right _ h)) (by decide +kernel))
set_option maxRecDepth 20000 in
theorem gX4_atByReplay_X4_wagonIn : GoodIn wsX4_atByReplay (va_wsS RX4 116 yX4_wagonIn wsX4_wagonIn) := goodIn_app (goodIn_of _ (by decide +kernel)) ggX4_atByReplay_X4_wagonIn
set_option maxRecDepth 20000 in
theorem ggX4_where_X4_requireWagon : GoodIn wsX4_where wsX4_requireWagon := goodIn_ca (goodIn_r _ [6, 7, 8, 9, 21, 22, 23, 24, 25, 26, 27, 28, 29, 30, 31, 32] (by decide +kernel) (by decide +kernel)) (goodIn_sub (fun _ h => List.mem_cons_of_mem _ (List.mem_append_right _ h)) (by decide +kernel))
set_option maxRecDepth 20000 in
theorem gX4_where_X4_requireWagon : GoodIn wsX4_where (wsV RX4 124 RX4 yX4_requireWagon wsX4_requireWagon) := goodIn_app (goodIn_of _ (by decide +kernel)) ggX4_where_X4_requireWagon
set_option maxRecDepth 20000 in
theorem ggX4_where_X2_findOnTracks : GoodIn wsX4_where wsX2_findOnTracks := goodIn_r _ [14, 15, 16, 17, 18, 13, 19, 20, 33, 34] (by decide +kernel) (by decide +kernel)
set_option maxRecDepth 20000 in
theorem gX4_where_X2_findOnTracks : GoodIn wsX4_where (wsV RX4 127 RX2 yX2_findOnTracks wsX2_findOnTracks) := goodIn_app (goodIn_of _ (by decide +kernel)) ggX4_where_X2_findOnTracks
set_option maxRecDepth 20000 in
theorem ggX4_carried_X4_requireWagon : GoodIn wsX4_carried wsX4_requireWagon := goodIn_ca (goodIn_r _ [6, 7, 8, 9, 10, 11, 12, 13, 14, 15, 16, 17, 18, 19, 20, 21] (by decide +kernel) (by decide +kernel)) (goodIn_sub (fun _ h => List.mem_cons_of_mem _ (List.mem_append_right _ h)) (by decide +kernel))
set_option maxRecDepth 20000 in
theorem gX4_carried_X4_requireWagon : GoodIn wsX4_carried (wsV RX4 124 RX4 yX4_requireWagon wsX4_requireWagon) := goodIn_app (goodIn_of _ (by decide +kernel)) ggX4_carried_X4_requireWagon
set_option maxRecDepth 20000 in
theorem ggX4_promised_X4_requireWagon : GoodIn wsX4_promised wsX4_requireWagon := goodIn_ca (goodIn_r _ [6, 7, 8, 9, 16, 17, 18, 19, 20, 21, 22, 23, 24, 25, 26, 27] (by decide +kernel) (by decide +kernel)) (goodIn_sub (fun _ h => List.mem_cons_of_mem _ (List.mem_append_right _ h)) (by decide +kernel))
set_option maxRecDepth 20000 in
theorem gX4_promised_X4_requireWagon : GoodIn wsX4_promised (wsV RX4 124 RX4 yX4_requireWagon wsX4_requireWagon) := goodIn_app (goodIn_of _ (by decide +kernel)) ggX4_promised_X4_requireWagon
set_option maxRecDepth 20000 in
theorem ggX4_promised_X1_bookingFor : GoodIn wsX4_promised wsX1_bookingFor := goodIn_r _ [14, 15, 28, 29, 30, 31, 32, 33, 34, 35, 36] (by decide +kernel) (by decide +kernel)
set_option maxRecDepth 20000 in
theorem gX4_promised_X1_bookingFor : GoodIn wsX4_promised (wsV RX4 130 RX1 yX1_bookingFor wsX1_bookingFor) := goodIn_app (goodIn_of _ (by decide +kernel)) ggX4_promised_X1_bookingFor
set_option maxRecDepth 20000 in
theorem ggX4_call_X4_requireCustomer : GoodIn wsX4_call wsX4_requireCustomer := goodIn_ca (goodIn_r _ [8, 9, 10] (by decide +kernel) (by decide +kernel)) (goodIn_sub (fun _ h => List.mem_cons_of_mem _ (List.mem_append_right _ h)) (by decide +kernel))
set_option maxRecDepth 20000 in
theorem gX4_call_X4_requireCustomer : GoodIn wsX4_call (va_wsS RX4 133 yX4_requireCustomer wsX4_requireCustomer) := goodIn_app (goodIn_of _ (by decide +kernel)) ggX4_call_X4_requireCustomer
set_option maxRecDepth 20000 in
theorem ggX4_call_X4_requireYard : GoodIn wsX4_call wsX4_requireYard := goodIn_ca (goodIn_r _ [13, 9, 10, 14, 15, 7, 16] (by decide +kernel) (by decide +kernel)) (goodIn_sub (fun _ h => List.mem_cons_of_mem _ (List.mem_append_right _ h)) (by decide +kernel))
set_option maxRecDepth 20000 in
theorem gX4_call_X4_requireYard : GoodIn wsX4_call (va_wsS RX4 101 yX4_requireYard wsX4_requireYard) := goodIn_app (goodIn_of _ (by decide +kernel)) ggX4_call_X4_requireYard
set_option maxRecDepth 20000 in
theorem ggX4_call_X3_ongoing : GoodIn wsX4_call wsX3_ongoing := goodIn_r _ [21, 22, 69, 70, 71, 72, 73, 74, 75, 76, 77] (by decide +kernel) (by decide +kernel)
set_option maxRecDepth 20000 in
theorem gX4_call_X3_ongoing : GoodIn wsX4_call (wsV RX4 136 RX3 yX3_ongoing wsX3_ongoing) := goodIn_app (goodIn_of _ (by decide +kernel)) ggX4_call_X3_ongoing
set_option maxRecDepth 20000 in
theorem ggX4_call_X3_isFull : GoodIn wsX4_call wsX3_isFull := goodIn_r _ [26, 27, 69, 70, 71, 72, 73, 74, 75, 76, 77] (by decide +kernel) (by decide +kernel)
set_option maxRecDepth 20000 in
theorem gX4_call_X3_isFull : GoodIn wsX4_call (wsV RX4 139 RX3 yX3_isFull wsX3_isFull) := goodIn_app (goodIn_of _ (by decide +kernel)) ggX4_call_X3_isFull
set_option maxRecDepth 20000 in
theorem ggX4_call_X3_begin : GoodIn wsX4_call wsX3_begin := goodIn_r _ [31, 32, 33, 34, 35, 20, 36, 22, 37, 38, 39, 40, 41, 27, 42, 43, 44, 45, 46, 47, 48, 49, 50, 51, 52, 53, 54, 55, 7, 56, 69, 70, 71, 72, 73, 74, 75, 76, 77] (by decide +kernel) (by decide +kernel)
set_option maxRecDepth 20000 in
theorem gX4_call_X3_begin : GoodIn wsX4_call (wsV RX4 145 RX3 yX3_begin wsX3_begin) := goodIn_app (goodIn_of _ (by decide +kernel)) ggX4_call_X3_begin
set_option maxRecDepth 20000 in
theorem ggX4_ask_X4_requireCall : GoodIn wsX4_ask wsX4_requireCall := goodIn_ca (goodIn_r _ [11, 12, 13, 5, 14, 15, 16, 17, 18, 19, 105, 106, 107, 108, 109, 110, 111, 112, 113, 114, 115, 116, 117, 118, 119, 120, 121, 122, 123, 124, 125] (by decide +kernel) (by decide +kernel)) (goodIn_sub (fun _ h => List.mem_cons_of_mem _ (List.mem_append_right _ h)) (by decide +kernel))
set_option maxRecDepth 20000 in
theorem gX4_ask_X4_requireCall : GoodIn wsX4_ask (wsV RX4 151 RX4 yX4_requireCall wsX4_requireCall) := goodIn_app (goodIn_of _ (by decide +kernel)) ggX4_ask_X4_requireCall
set_option maxRecDepth 20000 in
theorem ggX4_ask_X4_isGrain : GoodIn wsX4_ask wsX4_isGrain := goodIn_r _ [22] (by decide +kernel) (by decide +kernel)
set_option maxRecDepth 20000 in
theorem gX4_ask_X4_isGrain : GoodIn wsX4_ask (va_wsS RX4 110 yX4_isGrain wsX4_isGrain) := goodIn_app (goodIn_of _ (by decide +kernel)) ggX4_ask_X4_isGrain
set_option maxRecDepth 20000 in
theorem ggX4_ask_X4_requireOngoing : GoodIn wsX4_ask wsX4_requireOngoing := goodIn_ca (goodIn_r _ [26, 3, 4, 5, 27, 28, 29, 17, 30, 31, 32, 105, 106, 107, 108, 109, 110, 111, 112, 113, 114, 115, 116, 117, 118, 119, 120, 121, 122, 123, 124, 125] (by decide +kernel) (by decide +kernel)) (goodIn_sub (fun _ h => List.mem_cons_of_mem _ (List.mem_append_left _ (List.mem_append_right _ h))) (by decide +kernel))
set_option maxRecDepth 20000 in
theorem gX4_ask_X4_requireOngoing : GoodIn wsX4_ask (wsV RX4 156 RX4 yX4_requireOngoing wsX4_requireOngoing) := goodIn_app (goodIn_of _ (by decide +kernel)) ggX4_ask_X4_requireOngoing
set_option maxRecDepth 20000 in
theorem ggX4_ask_X3_openBooking : GoodIn wsX4_ask wsX3_openBooking := goodIn_r _ [36, 37, 117, 118, 119, 120, 121, 122, 123, 124, 125] (by decide +kernel) (by decide +kernel)
set_option maxRecDepth 20000 in
theorem gX4_ask_X3_openBooking : GoodIn wsX4_ask (wsV RX4 159 RX3 yX3_openBooking wsX3_openBooking) := goodIn_app (goodIn_of _ (by decide +kernel)) ggX4_ask_X3_openBooking
set_option maxRecDepth 20000 in
theorem ggX4_ask_X1_isFull : GoodIn wsX4_ask wsX1_isFull := goodIn_r _ [42, 43, 126, 127, 128, 129, 130, 131, 132, 133, 134] (by decide +kernel) (by decide +kernel)
set_option maxRecDepth 20000 in
theorem gX4_ask_X1_isFull : GoodIn wsX4_ask (wsV RX4 162 RX1 yX1_isFull wsX1_isFull) := goodIn_app (goodIn_of _ (by decide +kernel)) ggX4_ask_X1_isFull
set_option maxRecDepth 20000 in
theorem ggX4_ask_X1_grain : GoodIn wsX4_ask wsX1_grain := goodIn_r _ [47, 48, 126, 127, 128, 129, 130, 131, 132, 133, 134] (by decide +kernel) (by decide +kernel)
set_option maxRecDepth 20000 in
theorem gX4_ask_X1_grain : GoodIn wsX4_ask (wsV RX4 163 RX1 yX1_grain wsX1_grain) := goodIn_app (goodIn_of _ (by decide +kernel)) ggX4_ask_X1_grain
set_option maxRecDepth 20000 in
theorem ggX4_ask_X3_yard : GoodIn wsX4_ask wsX3_yard := goodIn_r _ [52, 53, 117, 118, 119, 120, 121, 122, 123, 124, 125] (by decide +kernel) (by decide +kernel)
set_option maxRecDepth 20000 in
theorem gX4_ask_X3_yard : GoodIn wsX4_ask (wsV RX4 168 RX3 yX3_yard wsX3_yard) := goodIn_app (goodIn_of _ (by decide +kernel)) ggX4_ask_X3_yard
set_option maxRecDepth 20000 in
theorem ggX4_ask_X4_findWagon : GoodIn wsX4_ask wsX4_findWagon := goodIn_r _ [57, 58, 6, 59, 60, 10, 61, 62, 63, 64, 65, 66, 67, 68, 69, 70, 71, 72, 73, 74, 75, 41, 76, 77, 78, 79, 80, 81, 82, 83, 105, 106, 107, 108, 109, 110, 111, 112, 113, 114, 115, 116, 135, 136, 126, 127, 128, 129, 130, 131, 132, 133, 134] (by decide +kernel) (by decide +kernel)
set_option maxRecDepth 20000 in
theorem gX4_ask_X4_findWagon : GoodIn wsX4_ask (wsV RX4 171 RX4 yX4_findWagon wsX4_findWagon) := goodIn_app (goodIn_of _ (by decide +kernel)) ggX4_ask_X4_findWagon
set_option maxRecDepth 20000 in
theorem ggX4_ask_X3_customer : GoodIn wsX4_ask wsX3_customer := goodIn_r _ [87, 32, 117, 118, 119, 120, 121, 122, 123, 124, 125] (by decide +kernel) (by decide +kernel)
set_option maxRecDepth 20000 in
theorem gX4_ask_X3_customer : GoodIn wsX4_ask (wsV RX4 174 RX3 yX3_customer wsX3_customer) := goodIn_app (goodIn_of _ (by decide +kernel)) ggX4_ask_X3_customer
set_option maxRecDepth 20000 in
theorem ggX4_ask_X1_open : GoodIn wsX4_ask wsX1_open := goodIn_r _ [91, 43, 92, 93, 48, 94, 126, 127, 128, 129, 130, 131, 132, 133, 134] (by decide +kernel) (by decide +kernel)
set_option maxRecDepth 20000 in
theorem gX4_ask_X1_open : GoodIn wsX4_ask (wsV RX4 177 RX1 yX1_open wsX1_open) := goodIn_app (goodIn_of _ (by decide +kernel)) ggX4_ask_X1_open
set_option maxRecDepth 20000 in
theorem ggX4_ask_X3_setOpenBooking : GoodIn wsX4_ask wsX3_setOpenBooking := goodIn_r _ [98, 37, 117, 118, 119, 120, 121, 122, 123, 124, 125] (by decide +kernel) (by decide +kernel)
set_option maxRecDepth 20000 in
theorem gX4_ask_X3_setOpenBooking : GoodIn wsX4_ask (wsV RX4 181 RX3 yX3_setOpenBooking wsX3_setOpenBooking) := goodIn_app (goodIn_of _ (by decide +kernel)) ggX4_ask_X3_setOpenBooking
set_option maxRecDepth 20000 in
theorem ggX4_ask_X1_add : GoodIn wsX4_ask wsX1_add := goodIn_r _ [102, 103, 104, 77, 126, 127, 128, 129, 130, 131, 132, 133, 134] (by decide +kernel) (by decide +kernel)
set_option maxRecDepth 20000 in
theorem gX4_ask_X1_add : GoodIn wsX4_ask (wsV RX4 184 RX1 yX1_add wsX1_add) := goodIn_app (goodIn_of _ (by decide +kernel)) ggX4_ask_X1_add
set_option maxRecDepth 20000 in
theorem ggX4_confirm_X4_requireCall : GoodIn wsX4_confirm wsX4_requireCall := goodIn_ca (goodIn_r _ [9, 10, 11, 3, 12, 13, 14, 15, 16, 17, 43, 44, 45, 46, 47, 48, 49, 50, 51, 52, 53, 54, 55, 56, 57, 58, 59, 60, 61, 62, 63] (by decide +kernel) (by decide +kernel)) (goodIn_sub (fun _ h => List.mem_cons_of_mem _ (List.mem_append_right _ h)) (by decide +kernel))
set_option maxRecDepth 20000 in
theorem gX4_confirm_X4_requireCall : GoodIn wsX4_confirm (wsV RX4 151 RX4 yX4_requireCall wsX4_requireCall) := goodIn_app (goodIn_of _ (by decide +kernel)) ggX4_confirm_X4_requireCall
set_option maxRecDepth 20000 in
theorem ggX4_confirm_X4_requireOngoing : GoodIn wsX4_confirm wsX4_requireOngoing := goodIn_ca (goodIn_r _ [21, 1, 2, 3, 22, 23, 24, 15, 25, 26, 27, 43, 44, 45, 46, 47, 48, 49, 50, 51, 52, 53, 54, 55, 56, 57, 58, 59, 60, 61, 62, 63] (by decide +kernel) (by decide +kernel)) (goodIn_sub (fun _ h => List.mem_cons_of_mem _ (List.mem_append_left _ (List.mem_append_right _ h))) (by decide +kernel))
set_option maxRecDepth 20000 in
theorem gX4_confirm_X4_requireOngoing : GoodIn wsX4_confirm (wsV RX4 156 RX4 yX4_requireOngoing wsX4_requireOngoing) := goodIn_app (goodIn_of _ (by decide +kernel)) ggX4_confirm_X4_requireOngoing
set_option maxRecDepth 20000 in
theorem ggX4_confirm_X3_openBooking : GoodIn wsX4_confirm wsX3_openBooking := goodIn_r _ [31, 32, 55, 56, 57, 58, 59, 60, 61, 62, 63] (by decide +kernel) (by decide +kernel)
set_option maxRecDepth 20000 in
theorem gX4_confirm_X3_openBooking : GoodIn wsX4_confirm (wsV RX4 159 RX3 yX3_openBooking wsX3_openBooking) := goodIn_app (goodIn_of _ (by decide +kernel)) ggX4_confirm_X3_openBooking
set_option maxRecDepth 20000 in
theorem ggX4_confirm_X1_keep : GoodIn wsX4_confirm wsX1_keep := goodIn_r _ [37, 38, 64, 65, 66, 67, 68, 69, 70, 71, 72] (by decide +kernel) (by decide +kernel)
set_option maxRecDepth 20000 in
theorem gX4_confirm_X1_keep : GoodIn wsX4_confirm (wsV RX4 189 RX1 yX1_keep wsX1_keep) := goodIn_app (goodIn_of _ (by decide +kernel)) ggX4_confirm_X1_keep
set_option maxRecDepth 20000 in
theorem ggX4_confirm_X3_setOpenBooking : GoodIn wsX4_confirm wsX3_setOpenBooking := goodIn_r _ [42, 32, 55, 56, 57, 58, 59, 60, 61, 62, 63] (by decide +kernel) (by decide +kernel)
set_option maxRecDepth 20000 in
theorem gX4_confirm_X3_setOpenBooking : GoodIn wsX4_confirm (wsV RX4 181 RX3 yX3_setOpenBooking wsX3_setOpenBooking) := goodIn_app (goodIn_of _ (by decide +kernel)) ggX4_confirm_X3_setOpenBooking
set_option maxRecDepth 20000 in
theorem ggX4_resume_X4_requireCall : GoodIn wsX4_resume wsX4_requireCall := goodIn_ca (goodIn_r _ [9, 10, 11, 3, 12, 13, 14, 15, 16, 17, 84, 85, 86, 87, 88, 89, 90, 91, 92, 93, 94, 95, 96, 97, 98, 99, 100, 101, 102, 103, 104] (by decide +kernel) (by decide +kernel)) (goodIn_sub (fun _ h => List.mem_cons_of_mem _ (List.mem_append_right _ h)) (by decide +kernel))
set_option maxRecDepth 20000 in
theorem gX4_resume_X4_requireCall : GoodIn wsX4_resume (wsV RX4 151 RX4 yX4_requireCall wsX4_requireCall) := goodIn_app (goodIn_of _ (by decide +kernel)) ggX4_resume_X4_requireCall
set_option maxRecDepth 20000 in
theorem ggX4_resume_X4_requireBooking : GoodIn wsX4_resume wsX4_requireBooking := goodIn_ca (goodIn_r _ [21, 10, 11, 4, 22, 23, 24, 25, 26, 27, 84, 85, 86, 87, 88, 89, 90, 91, 92, 93, 94, 95, 105, 106, 107, 108, 109, 110, 111, 112, 113] (by decide +kernel) (by decide +kernel)) (goodIn_sub (fun _ h => List.mem_cons_of_mem _ (List.mem_append_right _ h)) (by decide +kernel))
set_option maxRecDepth 20000 in
theorem gX4_resume_X4_requireBooking : GoodIn wsX4_resume (wsV RX4 192 RX4 yX4_requireBooking wsX4_requireBooking) := goodIn_app (goodIn_of _ (by decide +kernel)) ggX4_resume_X4_requireBooking
set_option maxRecDepth 20000 in
theorem ggX4_resume_X4_requireOngoing : GoodIn wsX4_resume wsX4_requireOngoing := goodIn_ca (goodIn_r _ [31, 1, 2, 3, 32, 33, 34, 15, 35, 36, 37, 84, 85, 86, 87, 88, 89, 90, 91, 92, 93, 94, 95, 96, 97, 98, 99, 100, 101, 102, 103, 104] (by decide +kernel) (by decide +kernel)) (goodIn_sub (fun _ h => List.mem_cons_of_mem _ (List.mem_append_left _ (List.mem_append_right _ h))) (by decide +kernel))
set_option maxRecDepth 20000 in
theorem gX4_resume_X4_requireOngoing : GoodIn wsX4_resume (wsV RX4 156 RX4 yX4_requireOngoing wsX4_requireOngoing) := goodIn_app (goodIn_of _ (by decide +kernel)) ggX4_resume_X4_requireOngoing
set_option maxRecDepth 20000 in
theorem ggX4_resume_X3_openBooking : GoodIn wsX4_resume wsX3_openBooking := goodIn_r _ [41, 42, 96, 97, 98, 99, 100, 101, 102, 103, 104] (by decide +kernel) (by decide +kernel)
set_option maxRecDepth 20000 in
theorem gX4_resume_X3_openBooking : GoodIn wsX4_resume (wsV RX4 159 RX3 yX3_openBooking wsX3_openBooking) := goodIn_app (goodIn_of _ (by decide +kernel)) ggX4_resume_X3_openBooking
set_option maxRecDepth 20000 in
theorem ggX4_resume_X4_isWithin : GoodIn wsX4_resume wsX4_isWithin := goodIn_r _ [46, 4, 3, 47, 48, 49, 25, 50, 51, 52, 53, 54, 55, 56, 57, 58, 59, 15, 60, 37, 61, 62, 63, 64, 65, 66, 67, 68, 69, 70, 84, 85, 86, 87, 88, 89, 90, 91, 92, 93, 94, 95, 105, 106, 107, 108, 109, 110, 111, 112, 113, 96, 97, 98, 99, 100, 101, 102, 103, 104] (by decide +kernel) (by decide +kernel)
set_option maxRecDepth 20000 in
theorem gX4_resume_X4_isWithin : GoodIn wsX4_resume (wsV RX4 195 RX4 yX4_isWithin wsX4_isWithin) := goodIn_app (goodIn_of _ (by decide +kernel)) ggX4_resume_X4_isWithin
set_option maxRecDepth 20000 in
theorem ggX4_resume_X1_keep : GoodIn wsX4_resume wsX1_keep := goodIn_r _ [74, 51, 105, 106, 107, 108, 109, 110, 111, 112, 113] (by decide +kernel) (by decide +kernel)
set_option maxRecDepth 20000 in
theorem gX4_resume_X1_keep : GoodIn wsX4_resume (wsV RX4 189 RX1 yX1_keep wsX1_keep) := goodIn_app (goodIn_of _ (by decide +kernel)) ggX4_resume_X1_keep
set_option maxRecDepth 20000 in
theorem ggX4_resume_X3_setOpenBooking : GoodIn wsX4_resume wsX3_setOpenBooking := goodIn_r _ [78, 42, 96, 97, 98, 99, 100, 101, 102, 103, 104] (by decide +kernel) (by decide +kernel)
set_option maxRecDepth 20000 in
theorem gX4_resume_X3_setOpenBooking : GoodIn wsX4_resume (wsV RX4 181 RX3 yX3_setOpenBooking wsX3_setOpenBooking) := goodIn_app (goodIn_of _ (by decide +kernel)) ggX4_resume_X3_setOpenBooking
set_option maxRecDepth 20000 in
theorem ggX4_resume_X1_size : GoodIn wsX4_resume wsX1_size := goodIn_r _ [82, 83, 105, 106, 107, 108, 109, 110, 111, 112, 113] (by decide +kernel) (by decide +kernel)
set_option maxRecDepth 20000 in
theorem gX4_resume_X1_size : GoodIn wsX4_resume (wsV RX4 201 RX1 yX1_size wsX1_size) := goodIn_app (goodIn_of _ (by decide +kernel)) ggX4_resume_X1_size
set_option maxRecDepth 20000 in
theorem ggX4_cancel_X4_requireCall : GoodIn wsX4_cancel wsX4_requireCall := goodIn_ca (goodIn_r _ [8, 9, 10, 11, 12, 13, 14, 15, 16, 17, 81, 82, 83, 84, 85, 86, 87, 88, 89, 90, 91, 92, 93, 94, 95, 96, 97, 98, 99, 100, 101] (by decide +kernel) (by decide +kernel)) (goodIn_sub (fun _ h => List.mem_cons_of_mem _ (List.mem_append_right _ h)) (by decide +kernel))
set_option maxRecDepth 20000 in
theorem gX4_cancel_X4_requireCall : GoodIn wsX4_cancel (wsV RX4 151 RX4 yX4_requireCall wsX4_requireCall) := goodIn_app (goodIn_of _ (by decide +kernel)) ggX4_cancel_X4_requireCall
set_option maxRecDepth 20000 in
theorem ggX4_cancel_X4_requireBooking : GoodIn wsX4_cancel wsX4_requireBooking := goodIn_ca (goodIn_r _ [21, 9, 10, 3, 22, 23, 24, 25, 26, 27, 81, 82, 83, 84, 85, 86, 87, 88, 89, 90, 91, 92, 102, 103, 104, 105, 106, 107, 108, 109, 110] (by decide +kernel) (by decide +kernel)) (goodIn_sub (fun _ h => List.mem_cons_of_mem _ (List.mem_append_right _ h)) (by decide +kernel))
set_option maxRecDepth 20000 in
theorem gX4_cancel_X4_requireBooking : GoodIn wsX4_cancel (wsV RX4 192 RX4 yX4_requireBooking wsX4_requireBooking) := goodIn_app (goodIn_of _ (by decide +kernel)) ggX4_cancel_X4_requireBooking
set_option maxRecDepth 20000 in
theorem ggX4_cancel_X4_requireOngoing : GoodIn wsX4_cancel wsX4_requireOngoing := goodIn_ca (goodIn_r _ [31, 1, 2, 11, 32, 33, 34, 15, 35, 36, 37, 81, 82, 83, 84, 85, 86, 87, 88, 89, 90, 91, 92, 93, 94, 95, 96, 97, 98, 99, 100, 101] (by decide +kernel) (by decide +kernel)) (goodIn_sub (fun _ h => List.mem_cons_of_mem _ (List.mem_append_left _ (List.mem_append_right _ h))) (by decide +kernel))
set_option maxRecDepth 20000 in
theorem gX4_cancel_X4_requireOngoing : GoodIn wsX4_cancel (wsV RX4 156 RX4 yX4_requireOngoing wsX4_requireOngoing) := goodIn_app (goodIn_of _ (by decide +kernel)) ggX4_cancel_X4_requireOngoing
set_option maxRecDepth 20000 in
theorem ggX4_cancel_X4_isWithin : GoodIn wsX4_cancel wsX4_isWithin := goodIn_r _ [41, 3, 11, 42, 43, 44, 25, 45, 46, 47, 48, 49, 50, 51, 52, 53, 54, 15, 55, 37, 56, 57, 58, 59, 60, 61, 62, 63, 64, 65, 81, 82, 83, 84, 85, 86, 87, 88, 89, 90, 91, 92, 102, 103, 104, 105, 106, 107, 108, 109, 110, 93, 94, 95, 96, 97, 98, 99, 100, 101] (by decide +kernel) (by decide +kernel)
set_option maxRecDepth 20000 in
theorem gX4_cancel_X4_isWithin : GoodIn wsX4_cancel (wsV RX4 195 RX4 yX4_isWithin wsX4_isWithin) := goodIn_app (goodIn_of _ (by decide +kernel)) ggX4_cancel_X4_isWithin
set_option maxRecDepth 20000 in
theorem ggX4_cancel_X1_release : GoodIn wsX4_cancel wsX1_release := goodIn_r _ [69, 46, 70, 71, 72, 73, 74, 25, 75, 76, 102, 103, 104, 105, 106, 107, 108, 109, 110] (by decide +kernel) (by decide +kernel)
set_option maxRecDepth 20000 in
theorem gX4_cancel_X1_release : GoodIn wsX4_cancel (wsV RX4 206 RX1 yX1_release wsX1_release) := goodIn_app (goodIn_of _ (by decide +kernel)) ggX4_cancel_X1_release
set_option maxRecDepth 20000 in
theorem ggX4_cancel_X1_size : GoodIn wsX4_cancel wsX1_size := goodIn_r _ [80, 70, 102, 103, 104, 105, 106, 107, 108, 109, 110] (by decide +kernel) (by decide +kernel)
set_option maxRecDepth 20000 in
theorem gX4_cancel_X1_size : GoodIn wsX4_cancel (wsV RX4 201 RX1 yX1_size wsX1_size) := goodIn_app (goodIn_of _ (by decide +kernel)) ggX4_cancel_X1_size
set_option maxRecDepth 20000 in
theorem ggX4_hangUp_X4_requireCall : GoodIn wsX4_hangUp wsX4_requireCall := goodIn_ca (goodIn_r _ [7, 8, 9, 1, 10, 11, 12, 13, 14, 15, 61, 62, 63, 64, 65, 66, 67, 68, 69, 70, 71, 72, 73, 74, 75, 76, 77, 78, 79, 80, 81] (by decide +kernel) (by decide +kernel)) (goodIn_sub (fun _ h => List.mem_cons_of_mem _ (List.mem_append_left _ (List.mem_append_right _ h))) (by decide +kernel))
set_option maxRecDepth 20000 in
theorem gX4_hangUp_X4_requireCall : GoodIn wsX4_hangUp (wsV RX4 151 RX4 yX4_requireCall wsX4_requireCall) := goodIn_app (goodIn_of _ (by decide +kernel)) ggX4_hangUp_X4_requireCall
set_option maxRecDepth 20000 in
theorem ggX4_hangUp_X4_requireOngoing : GoodIn wsX4_hangUp wsX4_requireOngoing := goodIn_ca (goodIn_r _ [19, 20, 21, 1, 22, 23, 24, 13, 25, 26, 27, 61, 62, 63, 64, 65, 66, 67, 68, 69, 70, 71, 72, 73, 74, 75, 76, 77, 78, 79, 80, 81] (by decide +kernel) (by decide +kernel)) (goodIn_sub (fun _ h => List.mem_cons_of_mem _ (List.mem_append_right _ h)) (by decide +kernel))
set_option maxRecDepth 20000 in
theorem gX4_hangUp_X4_requireOngoing : GoodIn wsX4_hangUp (wsV RX4 156 RX4 yX4_requireOngoing wsX4_requireOngoing) := goodIn_app (goodIn_of _ (by decide +kernel)) ggX4_hangUp_X4_requireOngoing
set_option maxRecDepth 20000 in
theorem ggX4_hangUp_X3_openBooking : GoodIn wsX4_hangUp wsX3_openBooking := goodIn_r _ [31, 32, 73, 74, 75, 76, 77, 78, 79, 80, 81] (by decide +kernel) (by decide +kernel)
set_option maxRecDepth 20000 in
theorem gX4_hangUp_X3_openBooking : GoodIn wsX4_hangUp (wsV RX4 159 RX3 yX3_openBooking wsX3_openBooking) := goodIn_app (goodIn_of _ (by decide +kernel)) ggX4_hangUp_X3_openBooking
set_option maxRecDepth 20000 in
theorem ggX4_hangUp_X3_end : GoodIn wsX4_hangUp wsX3_end := goodIn_r _ [36, 26, 27, 37, 38, 39, 40, 41, 13, 42, 43, 73, 74, 75, 76, 77, 78, 79, 80, 81] (by decide +kernel) (by decide +kernel)
set_option maxRecDepth 20000 in
theorem gX4_hangUp_X3_end : GoodIn wsX4_hangUp (wsV RX4 209 RX3 yX3_end wsX3_end) := goodIn_app (goodIn_of _ (by decide +kernel)) ggX4_hangUp_X3_end
set_option maxRecDepth 20000 in
theorem ggX4_hangUp_X1_release : GoodIn wsX4_hangUp wsX1_release := goodIn_r _ [48, 49, 50, 51, 52, 53, 54, 47, 55, 56, 82, 83, 84, 85, 86, 87, 88, 89, 90] (by decide +kernel) (by decide +kernel)
set_option maxRecDepth 20000 in
theorem gX4_hangUp_X1_release : GoodIn wsX4_hangUp (wsV RX4 206 RX1 yX1_release wsX1_release) := goodIn_app (goodIn_of _ (by decide +kernel)) ggX4_hangUp_X1_release
set_option maxRecDepth 20000 in
theorem ggX4_hangUp_X1_size : GoodIn wsX4_hangUp wsX1_size := goodIn_r _ [60, 50, 82, 83, 84, 85, 86, 87, 88, 89, 90] (by decide +kernel) (by decide +kernel)
set_option maxRecDepth 20000 in
theorem gX4_hangUp_X1_size : GoodIn wsX4_hangUp (wsV RX4 201 RX1 yX1_size wsX1_size) := goodIn_app (goodIn_of _ (by decide +kernel)) ggX4_hangUp_X1_size
set_option maxRecDepth 20000 in
theorem ggX4_callOf_X4_requireCustomer : GoodIn wsX4_callOf wsX4_requireCustomer := goodIn_ca (goodIn_r _ [5, 6, 7] (by decide +kernel) (by decide +kernel)) (goodIn_sub (fun _ h => List.mem_cons_of_mem _ (List.mem_append_right _ h)) (by decide +kernel))
set_option maxRecDepth 20000 in
theorem gX4_callOf_X4_requireCustomer : GoodIn wsX4_callOf (va_wsS RX4 133 yX4_requireCustomer wsX4_requireCustomer) := goodIn_app (goodIn_of _ (by decide +kernel)) ggX4_callOf_X4_requireCustomer
set_option maxRecDepth 20000 in
theorem ggX4_callOf_X3_ongoing : GoodIn wsX4_callOf wsX3_ongoing := goodIn_r _ [12, 13, 26, 27, 28, 29, 30, 31, 32, 33, 34] (by decide +kernel) (by decide +kernel)
set_option maxRecDepth 20000 in
theorem gX4_callOf_X3_ongoing : GoodIn wsX4_callOf (wsV RX4 136 RX3 yX3_ongoing wsX3_ongoing) := goodIn_app (goodIn_of _ (by decide +kernel)) ggX4_callOf_X3_ongoing
set_option maxRecDepth 20000 in
theorem ggX4_way_X4_requireCall : GoodIn wsX4_way wsX4_requireCall := goodIn_ca (goodIn_r _ [6, 7, 8, 1, 9, 10, 11, 12, 13, 14, 33, 34, 35, 36, 37, 38, 39, 40, 41, 42, 43, 44, 45, 46, 47, 48, 49, 50, 51, 52, 53] (by decide +kernel) (by decide +kernel)) (goodIn_sub (fun _ h => List.mem_cons_of_mem _ (List.mem_append_left _ (List.mem_append_right _ h))) (by decide +kernel))
set_option maxRecDepth 20000 in
theorem gX4_way_X4_requireCall : GoodIn wsX4_way (wsV RX4 151 RX4 yX4_requireCall wsX4_requireCall) := goodIn_app (goodIn_of _ (by decide +kernel)) ggX4_way_X4_requireCall
set_option maxRecDepth 20000 in
theorem ggX4_way_X4_requireOngoing : GoodIn wsX4_way wsX4_requireOngoing := goodIn_ca (goodIn_r _ [18, 19, 20, 1, 21, 22, 23, 12, 24, 25, 26, 33, 34, 35, 36, 37, 38, 39, 40, 41, 42, 43, 44, 45, 46, 47, 48, 49, 50, 51, 52, 53] (by decide +kernel) (by decide +kernel)) (goodIn_sub (fun _ h => List.mem_cons_of_mem _ (List.mem_append_right _ h)) (by decide +kernel))
set_option maxRecDepth 20000 in
theorem gX4_way_X4_requireOngoing : GoodIn wsX4_way (wsV RX4 156 RX4 yX4_requireOngoing wsX4_requireOngoing) := goodIn_app (goodIn_of _ (by decide +kernel)) ggX4_way_X4_requireOngoing
set_option maxRecDepth 20000 in
theorem ggX4_way_X3_trunksOf : GoodIn wsX4_way wsX3_trunksOf := goodIn_r _ [30, 31, 32, 45, 46, 47, 48, 49, 50, 51, 52, 53] (by decide +kernel) (by decide +kernel)
set_option maxRecDepth 20000 in
theorem gX4_way_X3_trunksOf : GoodIn wsX4_way (wsV RX4 212 RX3 yX3_trunksOf wsX3_trunksOf) := goodIn_app (goodIn_of _ (by decide +kernel)) ggX4_way_X3_trunksOf
set_option maxRecDepth 20000 in
theorem ggX4_cut_X4_requireTrunk : GoodIn wsX4_cut wsX4_requireTrunk := goodIn_ca (goodIn_r _ [7, 8, 9, 10, 11, 6, 12] (by decide +kernel) (by decide +kernel)) (goodIn_sub (fun _ h => List.mem_cons_of_mem _ (List.mem_append_right _ h)) (by decide +kernel))
set_option maxRecDepth 20000 in
theorem gX4_cut_X4_requireTrunk : GoodIn wsX4_cut (va_wsS RX4 215 yX4_requireTrunk wsX4_requireTrunk) := goodIn_app (goodIn_of _ (by decide +kernel)) ggX4_cut_X4_requireTrunk
set_option maxRecDepth 20000 in
theorem ggX4_cut_X4_slotOf : GoodIn wsX4_cut wsX4_slotOf := goodIn_r _ [15] (by decide +kernel) (by decide +kernel)
set_option maxRecDepth 20000 in
theorem gX4_cut_X4_slotOf : GoodIn wsX4_cut (va_wsS RX4 218 yX4_slotOf wsX4_slotOf) := goodIn_app (goodIn_of _ (by decide +kernel)) ggX4_cut_X4_slotOf
set_option maxRecDepth 20000 in
theorem ggX4_cut_X3_trunkHas : GoodIn wsX4_cut wsX3_trunkHas := goodIn_r _ [20, 21, 68, 69, 70, 71, 72, 73, 74, 75, 76] (by decide +kernel) (by decide +kernel)
set_option maxRecDepth 20000 in
theorem gX4_cut_X3_trunkHas : GoodIn wsX4_cut (wsV RX4 221 RX3 yX3_trunkHas wsX3_trunkHas) := goodIn_app (goodIn_of _ (by decide +kernel)) ggX4_cut_X3_trunkHas
set_option maxRecDepth 20000 in
theorem ggX4_cut_X4_cutOff : GoodIn wsX4_cut wsX4_cutOff := goodIn_r _ [25, 3, 26, 27, 28, 29, 30, 19, 31, 32, 33, 34, 35, 36, 37, 38, 39, 40, 41, 42, 43, 44, 21, 45, 46, 47, 48, 49, 50, 51, 56, 57, 58, 59, 60, 61, 62, 63, 64, 65, 66, 67, 68, 69, 70, 71, 72, 73, 74, 75, 76, 77, 78, 79, 80, 81, 82, 83, 84, 85] (by decide +kernel) (by decide +kernel)
set_option maxRecDepth 20000 in
theorem gX4_cut_X4_cutOff : GoodIn wsX4_cut (wsV RX4 226 RX4 yX4_cutOff wsX4_cutOff) := goodIn_app (goodIn_of _ (by decide +kernel)) ggX4_cut_X4_cutOff
set_option maxRecDepth 20000 in
theorem ggX4_cut_X3_setTrunk : GoodIn wsX4_cut wsX3_setTrunk := goodIn_r _ [55, 21, 68, 69, 70, 71, 72, 73, 74, 75, 76] (by decide +kernel) (by decide +kernel)
set_option maxRecDepth 20000 in
theorem gX4_cut_X3_setTrunk : GoodIn wsX4_cut (wsV RX4 229 RX3 yX3_setTrunk wsX3_setTrunk) := goodIn_app (goodIn_of _ (by decide +kernel)) ggX4_cut_X3_setTrunk
set_option maxRecDepth 20000 in
theorem ggX4_mend_X4_requireTrunk : GoodIn wsX4_mend wsX4_requireTrunk := goodIn_ca (goodIn_r _ [7, 8, 9, 10, 11, 6, 12] (by decide +kernel) (by decide +kernel)) (goodIn_sub (fun _ h => List.mem_cons_of_mem _ (List.mem_append_right _ h)) (by decide +kernel))
set_option maxRecDepth 20000 in
theorem gX4_mend_X4_requireTrunk : GoodIn wsX4_mend (va_wsS RX4 215 yX4_requireTrunk wsX4_requireTrunk) := goodIn_app (goodIn_of _ (by decide +kernel)) ggX4_mend_X4_requireTrunk
set_option maxRecDepth 20000 in
theorem ggX4_mend_X4_slotOf : GoodIn wsX4_mend wsX4_slotOf := goodIn_r _ [15] (by decide +kernel) (by decide +kernel)
set_option maxRecDepth 20000 in
theorem gX4_mend_X4_slotOf : GoodIn wsX4_mend (va_wsS RX4 218 yX4_slotOf wsX4_slotOf) := goodIn_app (goodIn_of _ (by decide +kernel)) ggX4_mend_X4_slotOf
set_option maxRecDepth 20000 in
theorem ggX4_mend_X3_trunkHas : GoodIn wsX4_mend wsX3_trunkHas := goodIn_r _ [20, 21, 38, 39, 40, 41, 42, 43, 44, 45, 46] (by decide +kernel) (by decide +kernel)
set_option maxRecDepth 20000 in
theorem gX4_mend_X3_trunkHas : GoodIn wsX4_mend (wsV RX4 221 RX3 yX3_trunkHas wsX3_trunkHas) := goodIn_app (goodIn_of _ (by decide +kernel)) ggX4_mend_X3_trunkHas
set_option maxRecDepth 20000 in
theorem ggX4_mend_X3_setTrunk : GoodIn wsX4_mend wsX3_setTrunk := goodIn_r _ [25, 21, 38, 39, 40, 41, 42, 43, 44, 45, 46] (by decide +kernel) (by decide +kernel)
set_option maxRecDepth 20000 in
theorem gX4_mend_X3_setTrunk : GoodIn wsX4_mend (wsV RX4 229 RX3 yX3_setTrunk wsX3_setTrunk) := goodIn_app (goodIn_of _ (by decide +kernel)) ggX4_mend_X3_setTrunk
set_option maxRecDepth 20000 in
theorem ggX4_trunk_X4_requireTrunk : GoodIn wsX4_trunk wsX4_requireTrunk := goodIn_ca (goodIn_r _ [5, 6, 7, 8, 9, 4, 10] (by decide +kernel) (by decide +kernel)) (goodIn_sub (fun _ h => List.mem_cons_of_mem _ (List.mem_append_right _ h)) (by decide +kernel))
set_option maxRecDepth 20000 in
theorem gX4_trunk_X4_requireTrunk : GoodIn wsX4_trunk (va_wsS RX4 215 yX4_requireTrunk wsX4_requireTrunk) := goodIn_app (goodIn_of _ (by decide +kernel)) ggX4_trunk_X4_requireTrunk
set_option maxRecDepth 20000 in
theorem ggX4_trunk_X4_slotOf : GoodIn wsX4_trunk wsX4_slotOf := goodIn_r _ [13] (by decide +kernel) (by decide +kernel)
set_option maxRecDepth 20000 in
theorem gX4_trunk_X4_slotOf : GoodIn wsX4_trunk (va_wsS RX4 218 yX4_slotOf wsX4_slotOf) := goodIn_app (goodIn_of _ (by decide +kernel)) ggX4_trunk_X4_slotOf
set_option maxRecDepth 20000 in
theorem ggX4_trunk_X3_trunkHas : GoodIn wsX4_trunk wsX3_trunkHas := goodIn_r _ [18, 19, 32, 33, 34, 35, 36, 37, 38, 39, 40] (by decide +kernel) (by decide +kernel)
set_option maxRecDepth 20000 in
theorem gX4_trunk_X3_trunkHas : GoodIn wsX4_trunk (wsV RX4 221 RX3 yX3_trunkHas wsX3_trunkHas) := goodIn_app (goodIn_of _ (by decide +kernel)) ggX4_trunk_X3_trunkHas
set_option maxRecDepth 20000 in
theorem ggX4_setLines_X4_requireYard : GoodIn wsX4_setLines wsX4_requireYard := goodIn_ca (goodIn_r _ [9, 1, 2, 10, 11, 8, 12] (by decide +kernel) (by decide +kernel)) (goodIn_sub (fun _ h => List.mem_cons_of_mem _ (List.mem_append_left _ (List.mem_append_right _ h))) (by decide +kernel))
set_option maxRecDepth 20000 in
theorem gX4_setLines_X4_requireYard : GoodIn wsX4_setLines (va_wsS RX4 101 yX4_requireYard wsX4_requireYard) := goodIn_app (goodIn_of _ (by decide +kernel)) ggX4_setLines_X4_requireYard
set_option maxRecDepth 20000 in
theorem ggX4_setLines_X3_callsTo : GoodIn wsX4_setLines wsX3_callsTo := goodIn_r _ [17, 18, 19, 37, 38, 39, 40, 41, 42, 43, 44, 45] (by decide +kernel) (by decide +kernel)
set_option maxRecDepth 20000 in
theorem gX4_setLines_X3_callsTo : GoodIn wsX4_setLines (wsV RX4 236 RX3 yX3_callsTo wsX3_callsTo) := goodIn_app (goodIn_of _ (by decide +kernel)) ggX4_setLines_X3_callsTo
set_option maxRecDepth 20000 in
theorem ggX4_setLines_X3_changeLines : GoodIn wsX4_setLines wsX3_changeLines := goodIn_r _ [23, 24, 37, 38, 39, 40, 41, 42, 43, 44, 45] (by decide +kernel) (by decide +kernel)
set_option maxRecDepth 20000 in
theorem gX4_setLines_X3_changeLines : GoodIn wsX4_setLines (wsV RX4 241 RX3 yX3_changeLines wsX3_changeLines) := goodIn_app (goodIn_of _ (by decide +kernel)) ggX4_setLines_X3_changeLines
set_option maxRecDepth 20000 in
theorem ggX4_pass_X1_lapseAll : GoodIn wsX4_pass wsX1_lapseAll := goodIn_r _ [11, 12, 13, 14, 15, 16, 17, 10, 18, 19, 20, 21, 22, 23, 24, 25, 38, 39, 40, 41, 42, 43, 44, 45, 46] (by decide +kernel) (by decide +kernel)
set_option maxRecDepth 20000 in
theorem gX4_pass_X1_lapseAll : GoodIn wsX4_pass (wsV RX4 251 RX1 yX1_lapseAll wsX1_lapseAll) := goodIn_app (goodIn_of _ (by decide +kernel)) ggX4_pass_X1_lapseAll
set_option maxRecDepth 20000 in
theorem ggX4_bookings_X1_opened : GoodIn wsX4_bookings wsX1_opened := goodIn_r _ [6, 7, 20, 21, 22, 23, 24, 25, 26, 27, 28] (by decide +kernel) (by decide +kernel)
set_option maxRecDepth 20000 in
theorem gX4_bookings_X1_opened : GoodIn wsX4_bookings (wsV RX4 254 RX1 yX1_opened wsX1_opened) := goodIn_app (goodIn_of _ (by decide +kernel)) ggX4_bookings_X1_opened
set_option maxRecDepth 20000 in
theorem ggX4_state_X4_requireBooking : GoodIn wsX4_state wsX4_requireBooking := goodIn_ca (goodIn_r _ [6, 7, 8, 1, 9, 10, 11, 12, 13, 14, 20, 21, 22, 23, 24, 25, 26, 27, 28, 29, 30, 31, 32, 33, 34, 35, 36, 37, 38, 39, 40] (by decide +kernel) (by decide +kernel)) (goodIn_sub (fun _ h => List.mem_cons_of_mem _ (List.mem_append_right _ h)) (by decide +kernel))
set_option maxRecDepth 20000 in
theorem gX4_state_X4_requireBooking : GoodIn wsX4_state (wsV RX4 192 RX4 yX4_requireBooking wsX4_requireBooking) := goodIn_app (goodIn_of _ (by decide +kernel)) ggX4_state_X4_requireBooking
set_option maxRecDepth 20000 in
theorem ggX4_state_X1_standing : GoodIn wsX4_state wsX1_standing := goodIn_r _ [18, 19, 32, 33, 34, 35, 36, 37, 38, 39, 40] (by decide +kernel) (by decide +kernel)
set_option maxRecDepth 20000 in
theorem gX4_state_X1_standing : GoodIn wsX4_state (wsV RX4 258 RX1 yX1_standing wsX1_standing) := goodIn_app (goodIn_of _ (by decide +kernel)) ggX4_state_X1_standing
set_option maxRecDepth 20000 in
theorem ggX4_wagons_X4_requireBooking : GoodIn wsX4_wagons wsX4_requireBooking := goodIn_ca (goodIn_r _ [6, 7, 8, 1, 9, 10, 11, 12, 13, 14, 20, 21, 22, 23, 24, 25, 26, 27, 28, 29, 30, 31, 32, 33, 34, 35, 36, 37, 38, 39, 40] (by decide +kernel) (by decide +kernel)) (goodIn_sub (fun _ h => List.mem_cons_of_mem _ (List.mem_append_right _ h)) (by decide +kernel))
set_option maxRecDepth 20000 in
theorem gX4_wagons_X4_requireBooking : GoodIn wsX4_wagons (wsV RX4 192 RX4 yX4_requireBooking wsX4_requireBooking) := goodIn_app (goodIn_of _ (by decide +kernel)) ggX4_wagons_X4_requireBooking
set_option maxRecDepth 20000 in
theorem ggX4_wagons_X1_size : GoodIn wsX4_wagons wsX1_size := goodIn_r _ [18, 19, 32, 33, 34, 35, 36, 37, 38, 39, 40] (by decide +kernel) (by decide +kernel)
set_option maxRecDepth 20000 in
theorem gX4_wagons_X1_size : GoodIn wsX4_wagons (wsV RX4 201 RX1 yX1_size wsX1_size) := goodIn_app (goodIn_of _ (by decide +kernel)) ggX4_wagons_X1_size
set_option maxRecDepth 20000 in
theorem ggX4_wagonOf_X4_requireBooking : GoodIn wsX4_wagonOf wsX4_requireBooking := goodIn_ca (goodIn_r _ [8, 1, 2, 3, 9, 10, 11, 12, 13, 14, 25, 26, 27, 28, 29, 30, 31, 32, 33, 34, 35, 36, 37, 38, 39, 40, 41, 42, 43, 44, 45] (by decide +kernel) (by decide +kernel)) (goodIn_sub (fun _ h => List.mem_cons_of_mem _ (List.mem_append_right _ h)) (by decide +kernel))
set_option maxRecDepth 20000 in
theorem gX4_wagonOf_X4_requireBooking : GoodIn wsX4_wagonOf (wsV RX4 192 RX4 yX4_requireBooking wsX4_requireBooking) := goodIn_app (goodIn_of _ (by decide +kernel)) ggX4_wagonOf_X4_requireBooking
set_option maxRecDepth 20000 in
theorem ggX4_wagonOf_X1_size : GoodIn wsX4_wagonOf wsX1_size := goodIn_r _ [18, 19, 37, 38, 39, 40, 41, 42, 43, 44, 45] (by decide +kernel) (by decide +kernel)
set_option maxRecDepth 20000 in
theorem gX4_wagonOf_X1_size : GoodIn wsX4_wagonOf (wsV RX4 201 RX1 yX1_size wsX1_size) := goodIn_app (goodIn_of _ (by decide +kernel)) ggX4_wagonOf_X1_size
set_option maxRecDepth 20000 in
theorem ggX4_wagonOf_X1_get : GoodIn wsX4_wagonOf wsX1_get := goodIn_r _ [23, 24, 37, 38, 39, 40, 41, 42, 43, 44, 45] (by decide +kernel) (by decide +kernel)
set_option maxRecDepth 20000 in
theorem gX4_wagonOf_X1_get : GoodIn wsX4_wagonOf (wsV RX4 266 RX1 yX1_get wsX1_get) := goodIn_app (goodIn_of _ (by decide +kernel)) ggX4_wagonOf_X1_get
set_option maxRecDepth 20000 in
theorem ggX4_lapses_X4_requireBooking : GoodIn wsX4_lapses wsX4_requireBooking := goodIn_ca (goodIn_r _ [9, 10, 11, 3, 12, 13, 14, 15, 16, 17, 28, 29, 30, 31, 32, 33, 34, 35, 36, 37, 38, 39, 40, 41, 42, 43, 44, 45, 46, 47, 48] (by decide +kernel) (by decide +kernel)) (goodIn_sub (fun _ h => List.mem_cons_of_mem _ (List.mem_append_right _ h)) (by decide +kernel))
set_option maxRecDepth 20000 in
theorem gX4_lapses_X4_requireBooking : GoodIn wsX4_lapses (wsV RX4 192 RX4 yX4_requireBooking wsX4_requireBooking) := goodIn_app (goodIn_of _ (by decide +kernel)) ggX4_lapses_X4_requireBooking
set_option maxRecDepth 20000 in
theorem ggX4_lapses_X1_standing : GoodIn wsX4_lapses wsX1_standing := goodIn_r _ [21, 22, 40, 41, 42, 43, 44, 45, 46, 47, 48] (by decide +kernel) (by decide +kernel)
set_option maxRecDepth 20000 in
theorem gX4_lapses_X1_standing : GoodIn wsX4_lapses (wsV RX4 258 RX1 yX1_standing wsX1_standing) := goodIn_app (goodIn_of _ (by decide +kernel)) ggX4_lapses_X1_standing
set_option maxRecDepth 20000 in
theorem ggX4_lapses_X1_lapseTick : GoodIn wsX4_lapses wsX1_lapseTick := goodIn_r _ [26, 27, 40, 41, 42, 43, 44, 45, 46, 47, 48] (by decide +kernel) (by decide +kernel)
set_option maxRecDepth 20000 in
theorem gX4_lapses_X1_lapseTick : GoodIn wsX4_lapses (wsV RX4 269 RX1 yX1_lapseTick wsX1_lapseTick) := goodIn_app (goodIn_of _ (by decide +kernel)) ggX4_lapses_X1_lapseTick
set_option maxRecDepth 20000 in
theorem ggX4_depart_X4_requireTrack : GoodIn wsX4_depart wsX4_requireTrack := goodIn_ca (goodIn_r _ [11, 1, 2, 12, 13, 10, 14, 15, 16, 17] (by decide +kernel) (by decide +kernel)) (goodIn_sub (fun _ h => List.mem_cons_of_mem _ (List.mem_append_left _ (List.mem_append_right _ h))) (by decide +kernel))
set_option maxRecDepth 20000 in
theorem gX4_depart_X4_requireTrack : GoodIn wsX4_depart (va_wsS RX4 57 yX4_requireTrack wsX4_requireTrack) := goodIn_app (goodIn_of _ (by decide +kernel)) ggX4_depart_X4_requireTrack
set_option maxRecDepth 20000 in
theorem ggX4_depart_X4_requireYard : GoodIn wsX4_depart wsX4_requireYard := goodIn_ca (goodIn_r _ [20, 1, 2, 12, 13, 10, 14] (by decide +kernel) (by decide +kernel)) (goodIn_sub (fun _ h => List.mem_cons_of_mem _ (List.mem_append_left _ (List.mem_append_right _ h))) (by decide +kernel))
set_option maxRecDepth 20000 in
theorem gX4_depart_X4_requireYard : GoodIn wsX4_depart (va_wsS RX4 101 yX4_requireYard wsX4_requireYard) := goodIn_app (goodIn_of _ (by decide +kernel)) ggX4_depart_X4_requireYard
set_option maxRecDepth 20000 in
theorem ggX4_depart_X4_rowOf : GoodIn wsX4_depart wsX4_rowOf := goodIn_r _ [23] (by decide +kernel) (by decide +kernel)
set_option maxRecDepth 20000 in
theorem gX4_depart_X4_rowOf : GoodIn wsX4_depart (va_wsS RX4 61 yX4_rowOf wsX4_rowOf) := goodIn_app (goodIn_of _ (by decide +kernel)) ggX4_depart_X4_rowOf
set_option maxRecDepth 20000 in
theorem ggX4_depart_X4_canDepart : GoodIn wsX4_depart wsX4_canDepart := goodIn_r _ [27, 7, 28, 29, 30, 31, 32, 33, 34, 35, 36, 37, 38, 39, 40, 41, 42, 43, 44, 45, 46, 47, 48, 49, 50, 51, 52, 53, 10, 54, 55, 56, 57, 58, 59, 92, 93, 94, 95, 96, 97, 98, 99, 100, 101, 102, 103, 104, 105, 106, 107, 108, 109, 110, 111, 112, 113, 114] (by decide +kernel) (by decide +kernel)
set_option maxRecDepth 20000 in
theorem gX4_depart_X4_canDepart : GoodIn wsX4_depart (wsV RX4 277 RX4 yX4_canDepart wsX4_canDepart) := goodIn_app (goodIn_of _ (by decide +kernel)) ggX4_depart_X4_canDepart
set_option maxRecDepth 20000 in
theorem ggX4_depart_X4_load : GoodIn wsX4_depart wsX4_load := goodIn_r _ [63, 7, 28, 64, 29, 30, 31, 32, 33, 34, 35, 36, 37, 38, 39, 40, 41, 42, 43, 44, 45, 65, 66, 67, 68, 69, 70, 71, 72, 73, 50, 92, 93, 94, 95, 96, 97, 98, 99, 100, 101, 102, 103, 104, 105, 106, 107, 108, 109, 110, 111, 112, 113, 114] (by decide +kernel) (by decide +kernel)
set_option maxRecDepth 20000 in
theorem gX4_depart_X4_load : GoodIn wsX4_depart (wsV RX4 282 RX4 yX4_load wsX4_load) := goodIn_app (goodIn_of _ (by decide +kernel)) ggX4_depart_X4_load
set_option maxRecDepth 20000 in
theorem ggX4_depart_X2_count : GoodIn wsX4_depart wsX2_count := goodIn_r _ [33, 34, 104, 105] (by decide +kernel) (by decide +kernel)
set_option maxRecDepth 20000 in
theorem gX4_depart_X2_count : GoodIn wsX4_depart (wsV RX4 91 RX2 yX2_count wsX2_count) := goodIn_app (goodIn_of _ (by decide +kernel)) ggX4_depart_X2_count
set_option maxRecDepth 20000 in
theorem ggX4_depart_X4_moveLast : GoodIn wsX4_depart wsX4_moveLast := goodIn_r _ [77, 7, 78, 79, 80, 81, 32, 82, 34, 39, 83, 84, 85, 86, 87, 88, 89, 90, 91, 92, 93, 94, 95, 96, 97, 98, 99, 100, 101, 102, 103, 104, 105, 115, 116, 117, 118] (by decide +kernel) (by decide +kernel)
set_option maxRecDepth 20000 in
theorem gX4_depart_X4_moveLast : GoodIn wsX4_depart (wsV RX4 97 RX4 yX4_moveLast wsX4_moveLast) := goodIn_app (goodIn_of _ (by decide +kernel)) ggX4_depart_X4_moveLast
set_option maxRecDepth 20000 in
theorem ggX4_arrive_X4_isTrack : GoodIn wsX4_arrive wsX4_isTrack := goodIn_r _ [13] (by decide +kernel) (by decide +kernel)
set_option maxRecDepth 20000 in
theorem gX4_arrive_X4_isTrack : GoodIn wsX4_arrive (va_wsS RX4 287 yX4_isTrack wsX4_isTrack) := goodIn_app (goodIn_of _ (by decide +kernel)) ggX4_arrive_X4_isTrack
set_option maxRecDepth 20000 in
theorem ggX4_arrive_X4_rowOf : GoodIn wsX4_arrive wsX4_rowOf := goodIn_r _ [16] (by decide +kernel) (by decide +kernel)
set_option maxRecDepth 20000 in
theorem gX4_arrive_X4_rowOf : GoodIn wsX4_arrive (va_wsS RX4 61 yX4_rowOf wsX4_rowOf) := goodIn_app (goodIn_of _ (by decide +kernel)) ggX4_arrive_X4_rowOf
set_option maxRecDepth 20000 in
theorem ggX4_arrive_X2_count : GoodIn wsX4_arrive wsX2_count := goodIn_r _ [21, 22, 84, 85] (by decide +kernel) (by decide +kernel)
set_option maxRecDepth 20000 in
theorem gX4_arrive_X2_count : GoodIn wsX4_arrive (wsV RX4 91 RX2 yX2_count wsX2_count) := goodIn_app (goodIn_of _ (by decide +kernel)) ggX4_arrive_X2_count
set_option maxRecDepth 20000 in
theorem ggX4_arrive_X2_hasRoom : GoodIn wsX4_arrive wsX2_hasRoom := goodIn_r _ [26, 22, 84, 85] (by decide +kernel) (by decide +kernel)
set_option maxRecDepth 20000 in
theorem gX4_arrive_X2_hasRoom : GoodIn wsX4_arrive (wsV RX4 69 RX2 yX2_hasRoom wsX2_hasRoom) := goodIn_app (goodIn_of _ (by decide +kernel)) ggX4_arrive_X2_hasRoom
set_option maxRecDepth 20000 in
theorem ggX4_arrive_X4_unload : GoodIn wsX4_arrive wsX4_unload := goodIn_r _ [30, 9, 31, 17, 18, 19, 20, 21, 22, 32, 33, 34, 35, 36, 37, 38, 39, 40, 41, 42, 43, 44, 45, 46, 47, 48, 49, 50, 51, 52, 53, 72, 73, 74, 75, 76, 77, 78, 79, 80, 81, 82, 83, 84, 85, 86, 87, 88, 89, 90, 91, 92, 93, 94] (by decide +kernel) (by decide +kernel)
set_option maxRecDepth 20000 in
theorem gX4_arrive_X4_unload : GoodIn wsX4_arrive (wsV RX4 294 RX4 yX4_unload wsX4_unload) := goodIn_app (goodIn_of _ (by decide +kernel)) ggX4_arrive_X4_unload
set_option maxRecDepth 20000 in
theorem ggX4_arrive_X4_moveLast : GoodIn wsX4_arrive wsX4_moveLast := goodIn_r _ [57, 9, 58, 59, 60, 61, 20, 62, 22, 36, 63, 64, 65, 66, 67, 68, 69, 70, 71, 72, 73, 74, 75, 76, 77, 78, 79, 80, 81, 82, 83, 84, 85, 95, 96, 97, 98] (by decide +kernel) (by decide +kernel)
set_option maxRecDepth 20000 in
theorem gX4_arrive_X4_moveLast : GoodIn wsX4_arrive (wsV RX4 97 RX4 yX4_moveLast wsX4_moveLast) := goodIn_app (goodIn_of _ (by decide +kernel)) ggX4_arrive_X4_moveLast
set_option maxRecDepth 20000 in
theorem ggX4_requireYard_X4_isYard : GoodIn wsX4_requireYard wsX4_isYard := goodIn_r _ [6] (by decide +kernel) (by decide +kernel)
set_option maxRecDepth 20000 in
theorem gX4_requireYard_X4_isYard : GoodIn wsX4_requireYard (va_wsS RX4 297 yX4_isYard wsX4_isYard) := goodIn_app (goodIn_of _ (by decide +kernel)) ggX4_requireYard_X4_isYard
set_option maxRecDepth 20000 in
theorem ggX4_requireTrack_X4_isYard : GoodIn wsX4_requireTrack wsX4_isYard := goodIn_r _ [6] (by decide +kernel) (by decide +kernel)
set_option maxRecDepth 20000 in
theorem gX4_requireTrack_X4_isYard : GoodIn wsX4_requireTrack (va_wsS RX4 297 yX4_isYard wsX4_isYard) := goodIn_app (goodIn_of _ (by decide +kernel)) ggX4_requireTrack_X4_isYard
set_option maxRecDepth 20000 in
theorem ggX4_requireTrack_X4_isTrack : GoodIn wsX4_requireTrack wsX4_isTrack := goodIn_r _ [9] (by decide +kernel) (by decide +kernel)
set_option maxRecDepth 20000 in
theorem gX4_requireTrack_X4_isTrack : GoodIn wsX4_requireTrack (va_wsS RX4 287 yX4_isTrack wsX4_isTrack) := goodIn_app (goodIn_of _ (by decide +kernel)) ggX4_requireTrack_X4_isTrack
set_option maxRecDepth 20000 in
theorem ggX4_requireTrunk_X4_isExchange : GoodIn wsX4_requireTrunk wsX4_isExchange := goodIn_r _ [6] (by decide +kernel) (by decide +kernel)
set_option maxRecDepth 20000 in
theorem gX4_requireTrunk_X4_isExchange : GoodIn wsX4_requireTrunk (va_wsS RX4 306 yX4_isExchange wsX4_isExchange) := goodIn_app (goodIn_of _ (by decide +kernel)) ggX4_requireTrunk_X4_isExchange
set_option maxRecDepth 20000 in
theorem ggX4_requireCall_X3_hasBegun : GoodIn wsX4_requireCall wsX3_hasBegun := goodIn_r _ [8, 9, 22, 23, 24, 25, 26, 27, 28, 29, 30] (by decide +kernel) (by decide +kernel)
set_option maxRecDepth 20000 in
theorem gX4_requireCall_X3_hasBegun : GoodIn wsX4_requireCall (wsV RX4 313 RX3 yX3_hasBegun wsX3_hasBegun) := goodIn_app (goodIn_of _ (by decide +kernel)) ggX4_requireCall_X3_hasBegun
set_option maxRecDepth 20000 in
theorem ggX4_requireOngoing_X3_goesOn : GoodIn wsX4_requireOngoing wsX3_goesOn := goodIn_r _ [8, 9, 10, 23, 24, 25, 26, 27, 28, 29, 30, 31] (by decide +kernel) (by decide +kernel)
set_option maxRecDepth 20000 in
theorem gX4_requireOngoing_X3_goesOn : GoodIn wsX4_requireOngoing (wsV RX4 318 RX3 yX3_goesOn wsX3_goesOn) := goodIn_app (goodIn_of _ (by decide +kernel)) ggX4_requireOngoing_X3_goesOn
set_option maxRecDepth 20000 in
theorem ggX4_requireBooking_X1_opened : GoodIn wsX4_requireBooking wsX1_opened := goodIn_r _ [8, 9, 22, 23, 24, 25, 26, 27, 28, 29, 30] (by decide +kernel) (by decide +kernel)
set_option maxRecDepth 20000 in
theorem gX4_requireBooking_X1_opened : GoodIn wsX4_requireBooking (wsV RX4 254 RX1 yX1_opened wsX1_opened) := goodIn_app (goodIn_of _ (by decide +kernel)) ggX4_requireBooking_X1_opened
set_option maxRecDepth 20000 in
theorem ggX4_wagonIn_X2_count : GoodIn wsX4_wagonIn wsX2_count := goodIn_r _ [7, 8, 14, 15] (by decide +kernel) (by decide +kernel)
set_option maxRecDepth 20000 in
theorem gX4_wagonIn_X2_count : GoodIn wsX4_wagonIn (wsV RX4 91 RX2 yX2_count wsX2_count) := goodIn_app (goodIn_of _ (by decide +kernel)) ggX4_wagonIn_X2_count
set_option maxRecDepth 20000 in
theorem ggX4_wagonIn_X2_get : GoodIn wsX4_wagonIn wsX2_get := goodIn_r _ [12, 13, 14, 15] (by decide +kernel) (by decide +kernel)
set_option maxRecDepth 20000 in
theorem gX4_wagonIn_X2_get : GoodIn wsX4_wagonIn (wsV RX4 107 RX2 yX2_get wsX2_get) := goodIn_app (goodIn_of _ (by decide +kernel)) ggX4_wagonIn_X2_get
set_option maxRecDepth 20000 in
theorem ggX4_moveLast_X2_move : GoodIn wsX4_moveLast wsX2_move := goodIn_r _ [7, 8, 9, 31, 32] (by decide +kernel) (by decide +kernel)
set_option maxRecDepth 20000 in
theorem gX4_moveLast_X2_move : GoodIn wsX4_moveLast (wsV RX4 327 RX2 yX2_move wsX2_move) := goodIn_app (goodIn_of _ (by decide +kernel)) ggX4_moveLast_X2_move
set_option maxRecDepth 20000 in
theorem ggX4_moveLast_X0_noteMove : GoodIn wsX4_moveLast wsX0_noteMove := goodIn_r _ [14, 15, 16, 17, 18, 33, 34, 35, 36] (by decide +kernel) (by decide +kernel)
set_option maxRecDepth 20000 in
theorem gX4_moveLast_X0_noteMove : GoodIn wsX4_moveLast (wsV RX4 330 RX0 yX0_noteMove wsX0_noteMove) := goodIn_app (goodIn_of _ (by decide +kernel)) ggX4_moveLast_X0_noteMove
set_option maxRecDepth 20000 in
theorem ggX4_findWagon_X4_rowOf : GoodIn wsX4_findWagon wsX4_rowOf := goodIn_r _ [6] (by decide +kernel) (by decide +kernel)
set_option maxRecDepth 20000 in
theorem gX4_findWagon_X4_rowOf : GoodIn wsX4_findWagon (va_wsS RX4 61 yX4_rowOf wsX4_rowOf) := goodIn_app (goodIn_of _ (by decide +kernel)) ggX4_findWagon_X4_rowOf
set_option maxRecDepth 20000 in
theorem ggX4_findWagon_X2_count : GoodIn wsX4_findWagon wsX2_count := goodIn_r _ [11, 12, 42, 43] (by decide +kernel) (by decide +kernel)
set_option maxRecDepth 20000 in
theorem gX4_findWagon_X2_count : GoodIn wsX4_findWagon (wsV RX4 91 RX2 yX2_count wsX2_count) := goodIn_app (goodIn_of _ (by decide +kernel)) ggX4_findWagon_X2_count
set_option maxRecDepth 20000 in
theorem ggX4_findWagon_X2_get : GoodIn wsX4_findWagon wsX2_get := goodIn_r _ [16, 17, 42, 43] (by decide +kernel) (by decide +kernel)
set_option maxRecDepth 20000 in
theorem gX4_findWagon_X2_get : GoodIn wsX4_findWagon (wsV RX4 107 RX2 yX2_get wsX2_get) := goodIn_app (goodIn_of _ (by decide +kernel)) ggX4_findWagon_X2_get
set_option maxRecDepth 20000 in
theorem ggX4_findWagon_X1_bookingFor : GoodIn wsX4_findWagon wsX1_bookingFor := goodIn_r _ [22, 23, 44, 45, 46, 47, 48, 49, 50, 51, 52] (by decide +kernel) (by decide +kernel)
set_option maxRecDepth 20000 in
theorem gX4_findWagon_X1_bookingFor : GoodIn wsX4_findWagon (wsV RX4 130 RX1 yX1_bookingFor wsX1_bookingFor) := goodIn_app (goodIn_of _ (by decide +kernel)) ggX4_findWagon_X1_bookingFor
set_option maxRecDepth 20000 in
theorem ggX4_findWagon_X4_fits : GoodIn wsX4_findWagon wsX4_fits := goodIn_r _ [27, 28, 29, 30, 31, 32, 33, 34, 35, 36, 37, 38, 39, 40, 41] (by decide +kernel) (by decide +kernel)
set_option maxRecDepth 20000 in
theorem gX4_findWagon_X4_fits : GoodIn wsX4_findWagon (wsV RX4 333 RX4 yX4_fits wsX4_fits) := goodIn_app (goodIn_of _ (by decide +kernel)) ggX4_findWagon_X4_fits
set_option maxRecDepth 20000 in
theorem ggX4_isWithin_X1_standing : GoodIn wsX4_isWithin wsX1_standing := goodIn_r _ [7, 8, 42, 43, 44, 45, 46, 47, 48, 49, 50] (by decide +kernel) (by decide +kernel)
set_option maxRecDepth 20000 in
theorem gX4_isWithin_X1_standing : GoodIn wsX4_isWithin (wsV RX4 258 RX1 yX1_standing wsX1_standing) := goodIn_app (goodIn_of _ (by decide +kernel)) ggX4_isWithin_X1_standing
set_option maxRecDepth 20000 in
theorem ggX4_isWithin_X1_customer : GoodIn wsX4_isWithin wsX1_customer := goodIn_r _ [12, 13, 42, 43, 44, 45, 46, 47, 48, 49, 50] (by decide +kernel) (by decide +kernel)
set_option maxRecDepth 20000 in
theorem gX4_isWithin_X1_customer : GoodIn wsX4_isWithin (wsV RX4 336 RX1 yX1_customer wsX1_customer) := goodIn_app (goodIn_of _ (by decide +kernel)) ggX4_isWithin_X1_customer
set_option maxRecDepth 20000 in
theorem ggX4_isWithin_X3_customer : GoodIn wsX4_isWithin wsX3_customer := goodIn_r _ [18, 19, 51, 52, 53, 54, 55, 56, 57, 58, 59] (by decide +kernel) (by decide +kernel)
set_option maxRecDepth 20000 in
theorem gX4_isWithin_X3_customer : GoodIn wsX4_isWithin (wsV RX4 174 RX3 yX3_customer wsX3_customer) := goodIn_app (goodIn_of _ (by decide +kernel)) ggX4_isWithin_X3_customer
set_option maxRecDepth 20000 in
theorem ggX4_isWithin_X1_yard : GoodIn wsX4_isWithin wsX1_yard := goodIn_r _ [23, 24, 42, 43, 44, 45, 46, 47, 48, 49, 50] (by decide +kernel) (by decide +kernel)
set_option maxRecDepth 20000 in
theorem gX4_isWithin_X1_yard : GoodIn wsX4_isWithin (wsV RX4 337 RX1 yX1_yard wsX1_yard) := goodIn_app (goodIn_of _ (by decide +kernel)) ggX4_isWithin_X1_yard
set_option maxRecDepth 20000 in
theorem ggX4_isWithin_X3_yard : GoodIn wsX4_isWithin wsX3_yard := goodIn_r _ [28, 29, 51, 52, 53, 54, 55, 56, 57, 58, 59] (by decide +kernel) (by decide +kernel)
set_option maxRecDepth 20000 in
theorem gX4_isWithin_X3_yard : GoodIn wsX4_isWithin (wsV RX4 168 RX3 yX3_yard wsX3_yard) := goodIn_app (goodIn_of _ (by decide +kernel)) ggX4_isWithin_X3_yard
set_option maxRecDepth 20000 in
theorem ggX4_cutOff_X3_openBooking : GoodIn wsX4_cutOff wsX3_openBooking := goodIn_r _ [8, 9, 42, 43, 44, 45, 46, 47, 48, 49, 50] (by decide +kernel) (by decide +kernel)
set_option maxRecDepth 20000 in
theorem gX4_cutOff_X3_openBooking : GoodIn wsX4_cutOff (wsV RX4 159 RX3 yX3_openBooking wsX3_openBooking) := goodIn_app (goodIn_of _ (by decide +kernel)) ggX4_cutOff_X3_openBooking
set_option maxRecDepth 20000 in
theorem ggX4_cutOff_X3_end : GoodIn wsX4_cutOff wsX3_end := goodIn_r _ [13, 14, 15, 16, 17, 18, 19, 20, 7, 21, 22, 42, 43, 44, 45, 46, 47, 48, 49, 50] (by decide +kernel) (by decide +kernel)
set_option maxRecDepth 20000 in
theorem gX4_cutOff_X3_end : GoodIn wsX4_cutOff (wsV RX4 209 RX3 yX3_end wsX3_end) := goodIn_app (goodIn_of _ (by decide +kernel)) ggX4_cutOff_X3_end
set_option maxRecDepth 20000 in
theorem ggX4_cutOff_X1_halve : GoodIn wsX4_cutOff wsX1_halve := goodIn_r _ [27, 28, 29, 51, 52, 53, 54, 55, 56, 57, 58, 59] (by decide +kernel) (by decide +kernel)
set_option maxRecDepth 20000 in
theorem gX4_cutOff_X1_halve : GoodIn wsX4_cutOff (wsV RX4 338 RX1 yX1_halve wsX1_halve) := goodIn_app (goodIn_of _ (by decide +kernel)) ggX4_cutOff_X1_halve
set_option maxRecDepth 20000 in
theorem ggX4_canDepart_X2_count : GoodIn wsX4_canDepart wsX2_count := goodIn_r _ [7, 8, 47, 48] (by decide +kernel) (by decide +kernel)
set_option maxRecDepth 20000 in
theorem gX4_canDepart_X2_count : GoodIn wsX4_canDepart (wsV RX4 91 RX2 yX2_count wsX2_count) := goodIn_app (goodIn_of _ (by decide +kernel)) ggX4_canDepart_X2_count
set_option maxRecDepth 20000 in
theorem ggX4_canDepart_X2_get : GoodIn wsX4_canDepart wsX2_get := goodIn_r _ [12, 13, 47, 48] (by decide +kernel) (by decide +kernel)
set_option maxRecDepth 20000 in
theorem gX4_canDepart_X2_get : GoodIn wsX4_canDepart (wsV RX4 107 RX2 yX2_get wsX2_get) := goodIn_app (goodIn_of _ (by decide +kernel)) ggX4_canDepart_X2_get
set_option maxRecDepth 20000 in
theorem ggX4_canDepart_X1_bookingFor : GoodIn wsX4_canDepart wsX1_bookingFor := goodIn_r _ [18, 19, 49, 50, 51, 52, 53, 54, 55, 56, 57] (by decide +kernel) (by decide +kernel)
set_option maxRecDepth 20000 in
theorem gX4_canDepart_X1_bookingFor : GoodIn wsX4_canDepart (wsV RX4 130 RX1 yX1_bookingFor wsX1_bookingFor) := goodIn_app (goodIn_of _ (by decide +kernel)) ggX4_canDepart_X1_bookingFor
set_option maxRecDepth 20000 in
theorem ggX4_canDepart_X1_standing : GoodIn wsX4_canDepart wsX1_standing := goodIn_r _ [23, 24, 49, 50, 51, 52, 53, 54, 55, 56, 57] (by decide +kernel) (by decide +kernel)
set_option maxRecDepth 20000 in
theorem gX4_canDepart_X1_standing : GoodIn wsX4_canDepart (wsV RX4 258 RX1 yX1_standing wsX1_standing) := goodIn_app (goodIn_of _ (by decide +kernel)) ggX4_canDepart_X1_standing
set_option maxRecDepth 20000 in
theorem ggX4_canDepart_X4_standsWhole : GoodIn wsX4_canDepart wsX4_standsWhole := goodIn_r _ [29, 1, 2, 3, 4, 5, 6, 7, 8, 9, 10, 11, 12, 13, 14, 15, 16, 17, 18, 19, 30, 31, 32, 33, 34, 35, 36, 37, 38, 39, 40, 41, 42, 43, 44, 45, 46, 47, 48, 49, 50, 51, 52, 53, 54, 55, 56, 57] (by decide +kernel) (by decide +kernel)
set_option maxRecDepth 20000 in
theorem gX4_canDepart_X4_standsWhole : GoodIn wsX4_canDepart (wsV RX4 341 RX4 yX4_standsWhole wsX4_standsWhole) := goodIn_app (goodIn_of _ (by decide +kernel)) ggX4_canDepart_X4_standsWhole
set_option maxRecDepth 20000 in
theorem ggX4_standsWhole_X2_count : GoodIn wsX4_standsWhole wsX2_count := goodIn_r _ [7, 8, 37, 38] (by decide +kernel) (by decide +kernel)
set_option maxRecDepth 20000 in
theorem gX4_standsWhole_X2_count : GoodIn wsX4_standsWhole (wsV RX4 91 RX2 yX2_count wsX2_count) := goodIn_app (goodIn_of _ (by decide +kernel)) ggX4_standsWhole_X2_count
set_option maxRecDepth 20000 in
theorem ggX4_standsWhole_X2_get : GoodIn wsX4_standsWhole wsX2_get := goodIn_r _ [12, 13, 37, 38] (by decide +kernel) (by decide +kernel)
set_option maxRecDepth 20000 in
theorem gX4_standsWhole_X2_get : GoodIn wsX4_standsWhole (wsV RX4 107 RX2 yX2_get wsX2_get) := goodIn_app (goodIn_of _ (by decide +kernel)) ggX4_standsWhole_X2_get
set_option maxRecDepth 20000 in
theorem ggX4_standsWhole_X1_bookingFor : GoodIn wsX4_standsWhole wsX1_bookingFor := goodIn_r _ [18, 19, 39, 40, 41, 42, 43, 44, 45, 46, 47] (by decide +kernel) (by decide +kernel)
set_option maxRecDepth 20000 in
theorem gX4_standsWhole_X1_bookingFor : GoodIn wsX4_standsWhole (wsV RX4 130 RX1 yX1_bookingFor wsX1_bookingFor) := goodIn_app (goodIn_of _ (by decide +kernel)) ggX4_standsWhole_X1_bookingFor
set_option maxRecDepth 20000 in
theorem ggX4_standsWhole_X1_size : GoodIn wsX4_standsWhole wsX1_size := goodIn_r _ [23, 24, 39, 40, 41, 42, 43, 44, 45, 46, 47] (by decide +kernel) (by decide +kernel)
set_option maxRecDepth 20000 in
theorem gX4_standsWhole_X1_size : GoodIn wsX4_standsWhole (wsV RX4 201 RX1 yX1_size wsX1_size) := goodIn_app (goodIn_of _ (by decide +kernel)) ggX4_standsWhole_X1_size
set_option maxRecDepth 20000 in
theorem ggX4_load_X2_count : GoodIn wsX4_load wsX2_count := goodIn_r _ [8, 9, 43, 44] (by decide +kernel) (by decide +kernel)
set_option maxRecDepth 20000 in
theorem gX4_load_X2_count : GoodIn wsX4_load (wsV RX4 91 RX2 yX2_count wsX2_count) := goodIn_app (goodIn_of _ (by decide +kernel)) ggX4_load_X2_count
set_option maxRecDepth 20000 in
theorem ggX4_load_X2_get : GoodIn wsX4_load wsX2_get := goodIn_r _ [13, 14, 43, 44] (by decide +kernel) (by decide +kernel)
set_option maxRecDepth 20000 in
theorem gX4_load_X2_get : GoodIn wsX4_load (wsV RX4 107 RX2 yX2_get wsX2_get) := goodIn_app (goodIn_of _ (by decide +kernel)) ggX4_load_X2_get
set_option maxRecDepth 20000 in
theorem ggX4_load_X1_bookingFor : GoodIn wsX4_load wsX1_bookingFor := goodIn_r _ [19, 20, 45, 46, 47, 48, 49, 50, 51, 52, 53] (by decide +kernel) (by decide +kernel)
set_option maxRecDepth 20000 in
theorem gX4_load_X1_bookingFor : GoodIn wsX4_load (wsV RX4 130 RX1 yX1_bookingFor wsX1_bookingFor) := goodIn_app (goodIn_of _ (by decide +kernel)) ggX4_load_X1_bookingFor
set_option maxRecDepth 20000 in
theorem ggX4_load_X1_grain : GoodIn wsX4_load wsX1_grain := goodIn_r _ [24, 25, 45, 46, 47, 48, 49, 50, 51, 52, 53] (by decide +kernel) (by decide +kernel)
set_option maxRecDepth 20000 in
theorem gX4_load_X1_grain : GoodIn wsX4_load (wsV RX4 163 RX1 yX1_grain wsX1_grain) := goodIn_app (goodIn_of _ (by decide +kernel)) ggX4_load_X1_grain
set_option maxRecDepth 20000 in
theorem ggX4_load_X1_keep : GoodIn wsX4_load wsX1_keep := goodIn_r _ [29, 30, 45, 46, 47, 48, 49, 50, 51, 52, 53] (by decide +kernel) (by decide +kernel)
set_option maxRecDepth 20000 in
theorem gX4_load_X1_keep : GoodIn wsX4_load (wsV RX4 189 RX1 yX1_keep wsX1_keep) := goodIn_app (goodIn_of _ (by decide +kernel)) ggX4_load_X1_keep
set_option maxRecDepth 20000 in
theorem ggX4_unload_X2_count : GoodIn wsX4_unload wsX2_count := goodIn_r _ [7, 8, 43, 44] (by decide +kernel) (by decide +kernel)
set_option maxRecDepth 20000 in
theorem gX4_unload_X2_count : GoodIn wsX4_unload (wsV RX4 91 RX2 yX2_count wsX2_count) := goodIn_app (goodIn_of _ (by decide +kernel)) ggX4_unload_X2_count
set_option maxRecDepth 20000 in
theorem ggX4_unload_X2_get : GoodIn wsX4_unload wsX2_get := goodIn_r _ [12, 13, 43, 44] (by decide +kernel) (by decide +kernel)
set_option maxRecDepth 20000 in
theorem gX4_unload_X2_get : GoodIn wsX4_unload (wsV RX4 107 RX2 yX2_get wsX2_get) := goodIn_app (goodIn_of _ (by decide +kernel)) ggX4_unload_X2_get
set_option maxRecDepth 20000 in
theorem ggX4_unload_X1_bookingFor : GoodIn wsX4_unload wsX1_bookingFor := goodIn_r _ [18, 19, 45, 46, 47, 48, 49, 50, 51, 52, 53] (by decide +kernel) (by decide +kernel)
set_option maxRecDepth 20000 in
theorem gX4_unload_X1_bookingFor : GoodIn wsX4_unload (wsV RX4 130 RX1 yX1_bookingFor wsX1_bookingFor) := goodIn_app (goodIn_of _ (by decide +kernel)) ggX4_unload_X1_bookingFor
set_option maxRecDepth 20000 in
theorem ggX4_unload_X1_release : GoodIn wsX4_unload wsX1_release := goodIn_r _ [23, 24, 25, 19, 26, 27, 28, 17, 29, 30, 45, 46, 47, 48, 49, 50, 51, 52, 53] (by decide +kernel) (by decide +kernel)
set_option maxRecDepth 20000 in
theorem gX4_unload_X1_release : GoodIn wsX4_unload (wsV RX4 206 RX1 yX1_release wsX1_release) := goodIn_app (goodIn_of _ (by decide +kernel)) ggX4_unload_X1_release
set_option maxRecDepth 20000 in
theorem ggX5_isYard_X5_in : GoodIn wsX5_isYard wsX5_in := goodIn_r _ [4] (by decide +kernel) (by decide +kernel)
set_option maxRecDepth 20000 in
theorem gX5_isYard_X5_in : GoodIn wsX5_isYard (va_wsS RX5 84 yX5_in wsX5_in) := goodIn_app (goodIn_of _ (by decide +kernel)) ggX5_isYard_X5_in
set_option maxRecDepth 20000 in
theorem ggX5_isTrack_X5_isYard : GoodIn wsX5_isTrack wsX5_isYard := goodIn_r _ [4, 5, 6, 3, 7] (by decide +kernel) (by decide +kernel)
set_option maxRecDepth 20000 in
theorem gX5_isTrack_X5_isYard : GoodIn wsX5_isTrack (va_wsS RX5 88 yX5_isYard wsX5_isYard) := goodIn_app (goodIn_of _ (by decide +kernel)) ggX5_isTrack_X5_isYard
set_option maxRecDepth 20000 in
theorem ggX5_isTrack_X5_in : GoodIn wsX5_isTrack wsX5_in := goodIn_r _ [7] (by decide +kernel) (by decide +kernel)
set_option maxRecDepth 20000 in
theorem gX5_isTrack_X5_in : GoodIn wsX5_isTrack (va_wsS RX5 84 yX5_in wsX5_in) := goodIn_app (goodIn_of _ (by decide +kernel)) ggX5_isTrack_X5_in
set_option maxRecDepth 20000 in
theorem ggX5_isGrain_X5_in : GoodIn wsX5_isGrain wsX5_in := goodIn_r _ [4] (by decide +kernel) (by decide +kernel)
set_option maxRecDepth 20000 in
theorem gX5_isGrain_X5_in : GoodIn wsX5_isGrain (va_wsS RX5 84 yX5_in wsX5_in) := goodIn_app (goodIn_of _ (by decide +kernel)) ggX5_isGrain_X5_in
set_option maxRecDepth 20000 in
theorem ggX5_isWagon_X5_in : GoodIn wsX5_isWagon wsX5_in := goodIn_r _ [5] (by decide +kernel) (by decide +kernel)
set_option maxRecDepth 20000 in
theorem gX5_isWagon_X5_in : GoodIn wsX5_isWagon (va_wsS RX5 84 yX5_in wsX5_in) := goodIn_app (goodIn_of _ (by decide +kernel)) ggX5_isWagon_X5_in
set_option maxRecDepth 20000 in
theorem ggX5_wagon_X5_isTrack : GoodIn wsX5_wagon wsX5_isTrack := goodIn_r _ [9, 10, 11, 8, 12, 13, 14, 15] (by decide +kernel) (by decide +kernel)
set_option maxRecDepth 20000 in
theorem gX5_wagon_X5_isTrack : GoodIn wsX5_wagon (va_wsS RX5 95 yX5_isTrack wsX5_isTrack) := goodIn_app (goodIn_of _ (by decide +kernel)) ggX5_wagon_X5_isTrack
set_option maxRecDepth 20000 in
theorem ggX5_wagon_X5_puts : GoodIn wsX5_wagon wsX5_puts := goodIn_r _ [19, 20, 2, 21, 22, 23, 24, 25, 26, 27, 28, 29, 30, 31, 32, 33, 34, 35, 36, 37, 38, 39, 40, 41, 42, 43, 44, 45, 46, 47, 48, 49, 50, 51] (by decide +kernel) (by decide +kernel)
set_option maxRecDepth 20000 in
theorem gX5_wagon_X5_puts : GoodIn wsX5_wagon (wsV RX5 99 RX5 yX5_puts wsX5_puts) := goodIn_app (goodIn_of _ (by decide +kernel)) ggX5_wagon_X5_puts
set_option maxRecDepth 20000 in
theorem ggX5_shunt_X5_isTrack : GoodIn wsX5_shunt wsX5_isTrack := goodIn_r _ [7, 8, 9, 6, 10, 11, 12, 13] (by decide +kernel) (by decide +kernel)
set_option maxRecDepth 20000 in
theorem gX5_shunt_X5_isTrack : GoodIn wsX5_shunt (va_wsS RX5 95 yX5_isTrack wsX5_isTrack) := goodIn_app (goodIn_of _ (by decide +kernel)) ggX5_shunt_X5_isTrack
set_option maxRecDepth 20000 in
theorem ggX5_shunt_X5_in : GoodIn wsX5_shunt wsX5_in := goodIn_r _ [13] (by decide +kernel) (by decide +kernel)
set_option maxRecDepth 20000 in
theorem gX5_shunt_X5_in : GoodIn wsX5_shunt (va_wsS RX5 84 yX5_in wsX5_in) := goodIn_app (goodIn_of _ (by decide +kernel)) ggX5_shunt_X5_in
set_option maxRecDepth 20000 in
theorem ggX5_shunt_X5_puts : GoodIn wsX5_shunt wsX5_puts := goodIn_r _ [17, 3, 1, 18, 19, 20, 21, 22, 23, 24, 25, 26, 27, 28, 29, 30, 31, 32, 33, 34, 35, 36, 37, 38, 39, 40, 41, 42, 43, 44, 45, 46, 47, 48] (by decide +kernel) (by decide +kernel)
set_option maxRecDepth 20000 in
theorem gX5_shunt_X5_puts : GoodIn wsX5_shunt (wsV RX5 99 RX5 yX5_puts wsX5_puts) := goodIn_app (goodIn_of _ (by decide +kernel)) ggX5_shunt_X5_puts
set_option maxRecDepth 20000 in
theorem ggX5_wash_X5_isYard : GoodIn wsX5_wash wsX5_isYard := goodIn_r _ [8, 9, 10, 7, 11] (by decide +kernel) (by decide +kernel)
set_option maxRecDepth 20000 in
theorem gX5_wash_X5_isYard : GoodIn wsX5_wash (va_wsS RX5 88 yX5_isYard wsX5_isYard) := goodIn_app (goodIn_of _ (by decide +kernel)) ggX5_wash_X5_isYard
set_option maxRecDepth 20000 in
theorem ggX5_follow_X5_isGrain : GoodIn wsX5_follow wsX5_isGrain := goodIn_r _ [6, 7, 8, 5, 9] (by decide +kernel) (by decide +kernel)
set_option maxRecDepth 20000 in
theorem gX5_follow_X5_isGrain : GoodIn wsX5_follow (va_wsS RX5 103 yX5_isGrain wsX5_isGrain) := goodIn_app (goodIn_of _ (by decide +kernel)) ggX5_follow_X5_isGrain
set_option maxRecDepth 20000 in
theorem ggX5_on_X5_isTrack : GoodIn wsX5_on wsX5_isTrack := goodIn_r _ [6, 7, 8, 5, 9, 10, 11, 12] (by decide +kernel) (by decide +kernel)
set_option maxRecDepth 20000 in
theorem gX5_on_X5_isTrack : GoodIn wsX5_on (va_wsS RX5 95 yX5_isTrack wsX5_isTrack) := goodIn_app (goodIn_of _ (by decide +kernel)) ggX5_on_X5_isTrack
set_option maxRecDepth 20000 in
theorem ggX5_wagonAt_X5_isTrack : GoodIn wsX5_wagonAt wsX5_isTrack := goodIn_r _ [7, 8, 9, 6, 10, 11, 12, 13] (by decide +kernel) (by decide +kernel)
set_option maxRecDepth 20000 in
theorem gX5_wagonAt_X5_isTrack : GoodIn wsX5_wagonAt (va_wsS RX5 95 yX5_isTrack wsX5_isTrack) := goodIn_app (goodIn_of _ (by decide +kernel)) ggX5_wagonAt_X5_isTrack
set_option maxRecDepth 20000 in
theorem ggX5_wagonAt_X5_in : GoodIn wsX5_wagonAt wsX5_in := goodIn_r _ [13] (by decide +kernel) (by decide +kernel)
set_option maxRecDepth 20000 in
theorem gX5_wagonAt_X5_in : GoodIn wsX5_wagonAt (va_wsS RX5 84 yX5_in wsX5_in) := goodIn_app (goodIn_of _ (by decide +kernel)) ggX5_wagonAt_X5_in
set_option maxRecDepth 20000 in
theorem ggX5_at_X5_wagonAt : GoodIn wsX5_at wsX5_wagonAt := goodIn_r _ [5, 6, 7, 8, 9, 10, 4, 11, 12, 13, 14, 15, 16, 17, 18, 19, 20, 21, 22, 23, 24, 25, 26, 27, 28, 29, 30, 31, 32, 33, 34, 35, 36, 37, 38, 39, 40, 41, 42, 43, 44, 45, 46, 47] (by decide +kernel) (by decide +kernel)
set_option maxRecDepth 20000 in
theorem gX5_at_X5_wagonAt : GoodIn wsX5_at (wsV RX5 106 RX5 yX5_wagonAt wsX5_wagonAt) := goodIn_app (goodIn_of _ (by decide +kernel)) ggX5_at_X5_wagonAt
set_option maxRecDepth 20000 in
theorem ggX5_atByReplay_X5_wagonAt : GoodIn wsX5_atByReplay wsX5_wagonAt := goodIn_r _ [5, 6, 7, 8, 9, 10, 4, 11, 12, 13, 14, 15, 16, 17, 18, 19, 20, 21, 22, 23, 24, 25, 26, 27, 28, 29, 30, 31, 32, 33, 34, 35, 36, 37, 38, 39, 40, 41, 42, 43, 44, 45, 46, 47] (by decide +kernel) (by decide +kernel)
set_option maxRecDepth 20000 in
theorem gX5_atByReplay_X5_wagonAt : GoodIn wsX5_atByReplay (wsV RX5 106 RX5 yX5_wagonAt wsX5_wagonAt) := goodIn_app (goodIn_of _ (by decide +kernel)) ggX5_atByReplay_X5_wagonAt
set_option maxRecDepth 20000 in
theorem ggX5_asksWagon_X5_isWagon : GoodIn wsX5_asksWagon wsX5_isWagon := goodIn_r _ [6, 7, 8, 9, 5, 10, 11, 12, 13, 14, 15, 16, 17, 18, 19, 20, 21, 22, 23, 24, 25, 26, 27, 28, 29, 30, 31, 32, 33, 34, 35, 36, 37, 38, 39, 40] (by decide +kernel) (by decide +kernel)
set_option maxRecDepth 20000 in
theorem gX5_asksWagon_X5_isWagon : GoodIn wsX5_asksWagon (wsV RX5 110 RX5 yX5_isWagon wsX5_isWagon) := goodIn_app (goodIn_of _ (by decide +kernel)) ggX5_asksWagon_X5_isWagon
set_option maxRecDepth 20000 in
theorem ggX5_where_X5_asksWagon : GoodIn wsX5_where wsX5_asksWagon := goodIn_r _ [6, 7, 8, 9, 10, 5, 11, 12, 13, 14, 15, 16, 17, 18, 19, 20, 21, 22, 23, 24, 25, 26, 27, 28, 29, 30, 31, 32, 33, 34, 35, 36, 37, 38, 39, 40, 41, 42, 43, 44, 45] (by decide +kernel) (by decide +kernel)
set_option maxRecDepth 20000 in
theorem gX5_where_X5_asksWagon : GoodIn wsX5_where (wsV RX5 113 RX5 yX5_asksWagon wsX5_asksWagon) := goodIn_app (goodIn_of _ (by decide +kernel)) ggX5_where_X5_asksWagon
set_option maxRecDepth 20000 in
theorem ggX5_carried_X5_asksWagon : GoodIn wsX5_carried wsX5_asksWagon := goodIn_r _ [6, 7, 8, 9, 10, 5, 11, 12, 13, 14, 15, 16, 17, 18, 19, 20, 21, 22, 23, 24, 25, 26, 27, 28, 29, 30, 31, 32, 33, 34, 35, 36, 37, 38, 39, 40, 41, 42, 43, 44, 45] (by decide +kernel) (by decide +kernel)
set_option maxRecDepth 20000 in
theorem gX5_carried_X5_asksWagon : GoodIn wsX5_carried (wsV RX5 113 RX5 yX5_asksWagon wsX5_asksWagon) := goodIn_app (goodIn_of _ (by decide +kernel)) ggX5_carried_X5_asksWagon
set_option maxRecDepth 20000 in
theorem ggX5_promised_X5_asksWagon : GoodIn wsX5_promised wsX5_asksWagon := goodIn_r _ [6, 7, 8, 9, 10, 5, 11, 12, 13, 14, 15, 21, 22, 23, 24, 25, 26, 27, 28, 29, 30, 31, 32, 33, 34, 35, 36, 37, 38, 39, 40, 41, 42, 43, 44, 45, 46, 47, 48, 49, 50] (by decide +kernel) (by decide +kernel)
set_option maxRecDepth 20000 in
theorem gX5_promised_X5_asksWagon : GoodIn wsX5_promised (wsV RX5 113 RX5 yX5_asksWagon wsX5_asksWagon) := goodIn_app (goodIn_of _ (by decide +kernel)) ggX5_promised_X5_asksWagon
set_option maxRecDepth 20000 in
theorem ggX5_promised_X5_isPromised : GoodIn wsX5_promised wsX5_isPromised := goodIn_r _ [19, 1, 20, 21, 22, 23, 24, 25, 26, 27, 28, 29, 30, 31, 32, 33, 34, 35, 36, 37, 38, 39, 40, 41, 42, 43, 44, 45, 46, 47, 48, 49, 50] (by decide +kernel) (by decide +kernel)
set_option maxRecDepth 20000 in
theorem gX5_promised_X5_isPromised : GoodIn wsX5_promised (wsV RX5 116 RX5 yX5_isPromised wsX5_isPromised) := goodIn_app (goodIn_of _ (by decide +kernel)) ggX5_promised_X5_isPromised
set_option maxRecDepth 20000 in
theorem ggX5_isCall_X5_in : GoodIn wsX5_isCall wsX5_in := goodIn_r _ [5] (by decide +kernel) (by decide +kernel)
set_option maxRecDepth 20000 in
theorem gX5_isCall_X5_in : GoodIn wsX5_isCall (va_wsS RX5 84 yX5_in wsX5_in) := goodIn_app (goodIn_of _ (by decide +kernel)) ggX5_isCall_X5_in
set_option maxRecDepth 20000 in
theorem ggX5_isBooking_X5_in : GoodIn wsX5_isBooking wsX5_in := goodIn_r _ [5] (by decide +kernel) (by decide +kernel)
set_option maxRecDepth 20000 in
theorem gX5_isBooking_X5_in : GoodIn wsX5_isBooking (va_wsS RX5 84 yX5_in wsX5_in) := goodIn_app (goodIn_of _ (by decide +kernel)) ggX5_isBooking_X5_in
set_option maxRecDepth 20000 in
theorem ggX5_freeBetween_X5_between : GoodIn wsX5_freeBetween wsX5_between := goodIn_r _ [5] (by decide +kernel) (by decide +kernel)
set_option maxRecDepth 20000 in
theorem gX5_freeBetween_X5_between : GoodIn wsX5_freeBetween (va_wsS RX5 125 yX5_between wsX5_between) := goodIn_app (goodIn_of _ (by decide +kernel)) ggX5_freeBetween_X5_between
set_option maxRecDepth 20000 in
theorem ggX5_takesWay_X5_freeBetween : GoodIn wsX5_takesWay wsX5_freeBetween := goodIn_r _ [7, 1, 8, 9, 6, 10, 11, 12, 13, 14, 15, 16, 17, 18, 19, 20, 21, 22, 23, 24, 25, 26, 27, 28, 29, 30, 31, 32, 33, 34, 35, 36, 37, 38, 39, 40] (by decide +kernel) (by decide +kernel)
set_option maxRecDepth 20000 in
theorem gX5_takesWay_X5_freeBetween : GoodIn wsX5_takesWay (wsV RX5 129 RX5 yX5_freeBetween wsX5_freeBetween) := goodIn_app (goodIn_of _ (by decide +kernel)) ggX5_takesWay_X5_freeBetween
set_option maxRecDepth 20000 in
theorem ggX5_call_X5_in : GoodIn wsX5_call wsX5_in := goodIn_r _ [12] (by decide +kernel) (by decide +kernel)
set_option maxRecDepth 20000 in
theorem gX5_call_X5_in : GoodIn wsX5_call (va_wsS RX5 84 yX5_in wsX5_in) := goodIn_app (goodIn_of _ (by decide +kernel)) ggX5_call_X5_in
set_option maxRecDepth 20000 in
theorem ggX5_call_X5_isYard : GoodIn wsX5_call wsX5_isYard := goodIn_r _ [15, 9, 10, 11, 12] (by decide +kernel) (by decide +kernel)
set_option maxRecDepth 20000 in
theorem gX5_call_X5_isYard : GoodIn wsX5_call (va_wsS RX5 88 yX5_isYard wsX5_isYard) := goodIn_app (goodIn_of _ (by decide +kernel)) ggX5_call_X5_isYard
set_option maxRecDepth 20000 in
theorem ggX5_call_X5_callNow : GoodIn wsX5_call wsX5_callNow := goodIn_r _ [19, 1, 7, 5, 36, 37, 38, 39, 40, 41, 42, 43, 44, 45, 46, 47, 48, 49, 50, 51, 52, 53, 54, 55, 56, 57, 58, 59, 60, 61, 62, 63, 64, 65] (by decide +kernel) (by decide +kernel)
set_option maxRecDepth 20000 in
theorem gX5_call_X5_callNow : GoodIn wsX5_call (wsV RX5 132 RX5 yX5_callNow wsX5_callNow) := goodIn_app (goodIn_of _ (by decide +kernel)) ggX5_call_X5_callNow
set_option maxRecDepth 20000 in
theorem ggX5_call_X5_callsTo : GoodIn wsX5_call wsX5_callsTo := goodIn_r _ [23, 1, 7, 6, 36, 37, 38, 39, 40, 41, 42, 43, 44, 45, 46, 47, 48, 49, 50, 51, 52, 53, 54, 55, 56, 57, 58, 59, 60, 61, 62, 63, 64, 65] (by decide +kernel) (by decide +kernel)
set_option maxRecDepth 20000 in
theorem gX5_call_X5_callsTo : GoodIn wsX5_call (wsV RX5 136 RX5 yX5_callsTo wsX5_callsTo) := goodIn_app (goodIn_of _ (by decide +kernel)) ggX5_call_X5_callsTo
set_option maxRecDepth 20000 in
theorem ggX5_call_X5_takesWay : GoodIn wsX5_call wsX5_takesWay := goodIn_r _ [27, 28, 1, 29, 30, 31, 11, 32, 33, 34, 35, 36, 37, 38, 39, 40, 41, 42, 43, 44, 45, 46, 47, 48, 49, 50, 51, 52, 53, 54, 55, 56, 57, 58, 59, 60, 61, 62, 63, 64, 65] (by decide +kernel) (by decide +kernel)
set_option maxRecDepth 20000 in
theorem gX5_call_X5_takesWay : GoodIn wsX5_call (wsV RX5 139 RX5 yX5_takesWay wsX5_takesWay) := goodIn_app (goodIn_of _ (by decide +kernel)) ggX5_call_X5_takesWay
set_option maxRecDepth 20000 in
theorem ggX5_finds_X5_isPromised : GoodIn wsX5_finds wsX5_isPromised := goodIn_r _ [7, 8, 9, 16, 17, 18, 19, 20, 21, 22, 23, 24, 25, 26, 27, 28, 29, 30, 31, 32, 33, 34, 35, 36, 37, 38, 39, 40, 41, 42, 43, 44, 45] (by decide +kernel) (by decide +kernel)
set_option maxRecDepth 20000 in
theorem gX5_finds_X5_isPromised : GoodIn wsX5_finds (wsV RX5 116 RX5 yX5_isPromised wsX5_isPromised) := goodIn_app (goodIn_of _ (by decide +kernel)) ggX5_finds_X5_isPromised
set_option maxRecDepth 20000 in
theorem ggX5_finds_X5_fits : GoodIn wsX5_finds wsX5_fits := goodIn_r _ [13, 14, 15, 16, 17, 18, 19, 20, 21, 22, 23, 24, 25, 26, 27, 28, 29, 30, 31, 32, 33, 34, 35, 36, 37, 38, 39, 40, 41, 42, 43, 44, 45] (by decide +kernel) (by decide +kernel)
set_option maxRecDepth 20000 in
theorem gX5_finds_X5_fits : GoodIn wsX5_finds (wsV RX5 145 RX5 yX5_fits wsX5_fits) := goodIn_app (goodIn_of _ (by decide +kernel)) ggX5_finds_X5_fits
set_option maxRecDepth 20000 in
theorem ggX5_ask_X5_isCall : GoodIn wsX5_ask wsX5_isCall := goodIn_r _ [16, 17, 18, 19, 15, 20, 46, 47, 48, 49, 50, 51, 52, 53, 54, 55, 56, 57, 58, 59, 60, 61, 62, 63, 64, 65, 66, 67, 68, 69, 70, 71, 72, 73, 74, 75] (by decide +kernel) (by decide +kernel)
set_option maxRecDepth 20000 in
theorem gX5_ask_X5_isCall : GoodIn wsX5_ask (wsV RX5 148 RX5 yX5_isCall wsX5_isCall) := goodIn_app (goodIn_of _ (by decide +kernel)) ggX5_ask_X5_isCall
set_option maxRecDepth 20000 in
theorem ggX5_ask_X5_isGrain : GoodIn wsX5_ask wsX5_isGrain := goodIn_r _ [23, 18, 19, 15, 20] (by decide +kernel) (by decide +kernel)
set_option maxRecDepth 20000 in
theorem gX5_ask_X5_isGrain : GoodIn wsX5_ask (va_wsS RX5 103 yX5_isGrain wsX5_isGrain) := goodIn_app (goodIn_of _ (by decide +kernel)) ggX5_ask_X5_isGrain
set_option maxRecDepth 20000 in
theorem ggX5_ask_X5_finds : GoodIn wsX5_ask wsX5_finds := goodIn_r _ [27, 28, 29, 30, 31, 32, 15, 33, 34, 7, 35, 36, 37, 38, 39, 40, 46, 47, 48, 49, 50, 51, 52, 53, 54, 55, 56, 57, 58, 59, 60, 61, 62, 63, 64, 65, 66, 67, 68, 69, 70, 71, 72, 73, 74, 75] (by decide +kernel) (by decide +kernel)
set_option maxRecDepth 20000 in
theorem gX5_ask_X5_finds : GoodIn wsX5_ask (wsV RX5 151 RX5 yX5_finds wsX5_finds) := goodIn_app (goodIn_of _ (by decide +kernel)) ggX5_ask_X5_finds
set_option maxRecDepth 20000 in
theorem ggX5_ask_X5_adds : GoodIn wsX5_ask wsX5_adds := goodIn_r _ [44, 45, 11, 34, 46, 47, 48, 49, 50, 51, 52, 53, 54, 55, 56, 57, 58, 59, 60, 61, 62, 63, 64, 65, 66, 67, 68, 69, 70, 71, 72, 73, 74, 75] (by decide +kernel) (by decide +kernel)
set_option maxRecDepth 20000 in
theorem gX5_ask_X5_adds : GoodIn wsX5_ask (wsV RX5 154 RX5 yX5_adds wsX5_adds) := goodIn_app (goodIn_of _ (by decide +kernel)) ggX5_ask_X5_adds
set_option maxRecDepth 20000 in
theorem ggX5_confirm_X5_isCall : GoodIn wsX5_confirm wsX5_isCall := goodIn_r _ [9, 10, 11, 12, 8, 13, 14, 15, 16, 17, 18, 19, 20, 21, 22, 23, 24, 25, 26, 27, 28, 29, 30, 31, 32, 33, 34, 35, 36, 37, 38, 39, 40, 41, 42, 43] (by decide +kernel) (by decide +kernel)
set_option maxRecDepth 20000 in
theorem gX5_confirm_X5_isCall : GoodIn wsX5_confirm (wsV RX5 148 RX5 yX5_isCall wsX5_isCall) := goodIn_app (goodIn_of _ (by decide +kernel)) ggX5_confirm_X5_isCall
set_option maxRecDepth 20000 in
theorem ggX5_resume_X5_isCall : GoodIn wsX5_resume wsX5_isCall := goodIn_r _ [10, 11, 12, 13, 9, 14, 28, 29, 30, 31, 32, 33, 34, 35, 36, 37, 38, 39, 40, 41, 42, 43, 44, 45, 46, 47, 48, 49, 50, 51, 52, 53, 54, 55, 56, 57] (by decide +kernel) (by decide +kernel)
set_option maxRecDepth 20000 in
theorem gX5_resume_X5_isCall : GoodIn wsX5_resume (wsV RX5 148 RX5 yX5_isCall wsX5_isCall) := goodIn_app (goodIn_of _ (by decide +kernel)) ggX5_resume_X5_isCall
set_option maxRecDepth 20000 in
theorem ggX5_resume_X5_isBooking : GoodIn wsX5_resume wsX5_isBooking := goodIn_r _ [18, 19, 12, 13, 9, 14, 28, 29, 30, 31, 32, 33, 34, 35, 36, 37, 38, 39, 40, 41, 42, 43, 44, 45, 46, 47, 48, 49, 50, 51, 52, 53, 54, 55, 56, 57] (by decide +kernel) (by decide +kernel)
set_option maxRecDepth 20000 in
theorem gX5_resume_X5_isBooking : GoodIn wsX5_resume (wsV RX5 158 RX5 yX5_isBooking wsX5_isBooking) := goodIn_app (goodIn_of _ (by decide +kernel)) ggX5_resume_X5_isBooking
set_option maxRecDepth 20000 in
theorem ggX5_resume_X5_isOf : GoodIn wsX5_resume wsX5_isOf := goodIn_r _ [23, 24, 25, 26, 27, 28, 29, 30, 31, 32, 33, 34, 35, 36, 37, 38, 39, 40, 41, 42, 43, 44, 45, 46, 47, 48, 49, 50, 51, 52, 53, 54, 55, 56, 57] (by decide +kernel) (by decide +kernel)
set_option maxRecDepth 20000 in
theorem gX5_resume_X5_isOf : GoodIn wsX5_resume (wsV RX5 161 RX5 yX5_isOf wsX5_isOf) := goodIn_app (goodIn_of _ (by decide +kernel)) ggX5_resume_X5_isOf
set_option maxRecDepth 20000 in
theorem ggX5_cancel_X5_isCall : GoodIn wsX5_cancel wsX5_isCall := goodIn_r _ [9, 10, 11, 12, 8, 13, 27, 28, 29, 30, 31, 32, 33, 34, 35, 36, 37, 38, 39, 40, 41, 42, 43, 44, 45, 46, 47, 48, 49, 50, 51, 52, 53, 54, 55, 56] (by decide +kernel) (by decide +kernel)
set_option maxRecDepth 20000 in
theorem gX5_cancel_X5_isCall : GoodIn wsX5_cancel (wsV RX5 148 RX5 yX5_isCall wsX5_isCall) := goodIn_app (goodIn_of _ (by decide +kernel)) ggX5_cancel_X5_isCall
set_option maxRecDepth 20000 in
theorem ggX5_cancel_X5_isBooking : GoodIn wsX5_cancel wsX5_isBooking := goodIn_r _ [17, 18, 11, 12, 8, 13, 27, 28, 29, 30, 31, 32, 33, 34, 35, 36, 37, 38, 39, 40, 41, 42, 43, 44, 45, 46, 47, 48, 49, 50, 51, 52, 53, 54, 55, 56] (by decide +kernel) (by decide +kernel)
set_option maxRecDepth 20000 in
theorem gX5_cancel_X5_isBooking : GoodIn wsX5_cancel (wsV RX5 158 RX5 yX5_isBooking wsX5_isBooking) := goodIn_app (goodIn_of _ (by decide +kernel)) ggX5_cancel_X5_isBooking
set_option maxRecDepth 20000 in
theorem ggX5_cancel_X5_isOf : GoodIn wsX5_cancel wsX5_isOf := goodIn_r _ [22, 23, 24, 25, 26, 27, 28, 29, 30, 31, 32, 33, 34, 35, 36, 37, 38, 39, 40, 41, 42, 43, 44, 45, 46, 47, 48, 49, 50, 51, 52, 53, 54, 55, 56] (by decide +kernel) (by decide +kernel)
set_option maxRecDepth 20000 in
theorem gX5_cancel_X5_isOf : GoodIn wsX5_cancel (wsV RX5 161 RX5 yX5_isOf wsX5_isOf) := goodIn_app (goodIn_of _ (by decide +kernel)) ggX5_cancel_X5_isOf
set_option maxRecDepth 20000 in
theorem ggX5_hangUp_X5_isCall : GoodIn wsX5_hangUp wsX5_isCall := goodIn_r _ [10, 11, 12, 13, 9, 14, 20, 21, 22, 23, 24, 25, 26, 27, 28, 29, 30, 31, 32, 33, 34, 35, 36, 37, 38, 39, 40, 41, 42, 43, 44, 45, 46, 47, 48, 49] (by decide +kernel) (by decide +kernel)
set_option maxRecDepth 20000 in
theorem gX5_hangUp_X5_isCall : GoodIn wsX5_hangUp (wsV RX5 148 RX5 yX5_isCall wsX5_isCall) := goodIn_app (goodIn_of _ (by decide +kernel)) ggX5_hangUp_X5_isCall
set_option maxRecDepth 20000 in
theorem ggX5_hangUp_X5_ends : GoodIn wsX5_hangUp wsX5_ends := goodIn_r _ [18, 1, 19, 20, 21, 22, 23, 24, 25, 26, 27, 28, 29, 30, 31, 32, 33, 34, 35, 36, 37, 38, 39, 40, 41, 42, 43, 44, 45, 46, 47, 48, 49] (by decide +kernel) (by decide +kernel)
set_option maxRecDepth 20000 in
theorem gX5_hangUp_X5_ends : GoodIn wsX5_hangUp (wsV RX5 164 RX5 yX5_ends wsX5_ends) := goodIn_app (goodIn_of _ (by decide +kernel)) ggX5_hangUp_X5_ends
set_option maxRecDepth 20000 in
theorem ggX5_callOf_X5_in : GoodIn wsX5_callOf wsX5_in := goodIn_r _ [5] (by decide +kernel) (by decide +kernel)
set_option maxRecDepth 20000 in
theorem gX5_callOf_X5_in : GoodIn wsX5_callOf (va_wsS RX5 84 yX5_in wsX5_in) := goodIn_app (goodIn_of _ (by decide +kernel)) ggX5_callOf_X5_in
set_option maxRecDepth 20000 in
theorem ggX5_callOf_X5_callNow : GoodIn wsX5_callOf wsX5_callNow := goodIn_r _ [9, 10, 11, 12, 13, 14, 15, 16, 17, 18, 19, 20, 21, 22, 23, 24, 25, 26, 27, 28, 29, 30, 31, 32, 33, 34, 35, 36, 37, 38, 39, 40, 41, 42] (by decide +kernel) (by decide +kernel)
set_option maxRecDepth 20000 in
theorem gX5_callOf_X5_callNow : GoodIn wsX5_callOf (wsV RX5 132 RX5 yX5_callNow wsX5_callNow) := goodIn_app (goodIn_of _ (by decide +kernel)) ggX5_callOf_X5_callNow
set_option maxRecDepth 20000 in
theorem ggX5_way_X5_isCall : GoodIn wsX5_way wsX5_isCall := goodIn_r _ [8, 9, 10, 11, 7, 12, 13, 14, 15, 16, 17, 18, 19, 20, 21, 22, 23, 24, 25, 26, 27, 28, 29, 30, 31, 32, 33, 34, 35, 36, 37, 38, 39, 40, 41, 42] (by decide +kernel) (by decide +kernel)
set_option maxRecDepth 20000 in
theorem gX5_way_X5_isCall : GoodIn wsX5_way (wsV RX5 148 RX5 yX5_isCall wsX5_isCall) := goodIn_app (goodIn_of _ (by decide +kernel)) ggX5_way_X5_isCall
set_option maxRecDepth 20000 in
theorem ggX5_isTrunk_X5_isYard : GoodIn wsX5_isTrunk wsX5_isYard := goodIn_r _ [4, 5, 6, 3, 7] (by decide +kernel) (by decide +kernel)
set_option maxRecDepth 20000 in
theorem gX5_isTrunk_X5_isYard : GoodIn wsX5_isTrunk (va_wsS RX5 88 yX5_isYard wsX5_isYard) := goodIn_app (goodIn_of _ (by decide +kernel)) ggX5_isTrunk_X5_isYard
set_option maxRecDepth 20000 in
theorem ggX5_isTrunk_X5_in : GoodIn wsX5_isTrunk wsX5_in := goodIn_r _ [7] (by decide +kernel) (by decide +kernel)
set_option maxRecDepth 20000 in
theorem gX5_isTrunk_X5_in : GoodIn wsX5_isTrunk (va_wsS RX5 84 yX5_in wsX5_in) := goodIn_app (goodIn_of _ (by decide +kernel)) ggX5_isTrunk_X5_in
set_option maxRecDepth 20000 in
theorem ggX5_cut_X5_isTrunk : GoodIn wsX5_cut wsX5_isTrunk := goodIn_r _ [10, 11, 12, 9, 13, 14, 15, 16] (by decide +kernel) (by decide +kernel)
set_option maxRecDepth 20000 in
theorem gX5_cut_X5_isTrunk : GoodIn wsX5_cut (va_wsS RX5 168 yX5_isTrunk wsX5_isTrunk) := goodIn_app (goodIn_of _ (by decide +kernel)) ggX5_cut_X5_isTrunk
set_option maxRecDepth 20000 in
theorem ggX5_cut_X5_between : GoodIn wsX5_cut wsX5_between := goodIn_r _ [19] (by decide +kernel) (by decide +kernel)
set_option maxRecDepth 20000 in
theorem gX5_cut_X5_between : GoodIn wsX5_cut (va_wsS RX5 125 yX5_between wsX5_between) := goodIn_app (goodIn_of _ (by decide +kernel)) ggX5_cut_X5_between
set_option maxRecDepth 20000 in
theorem ggX5_cut_X5_ends : GoodIn wsX5_cut wsX5_ends := goodIn_r _ [23, 24, 1, 25, 26, 27, 28, 29, 30, 31, 32, 33, 34, 35, 36, 37, 38, 39, 40, 41, 42, 43, 44, 45, 46, 47, 48, 49, 50, 51, 52, 53, 54] (by decide +kernel) (by decide +kernel)
set_option maxRecDepth 20000 in
theorem gX5_cut_X5_ends : GoodIn wsX5_cut (wsV RX5 164 RX5 yX5_ends wsX5_ends) := goodIn_app (goodIn_of _ (by decide +kernel)) ggX5_cut_X5_ends
set_option maxRecDepth 20000 in
theorem ggX5_mend_X5_isTrunk : GoodIn wsX5_mend wsX5_isTrunk := goodIn_r _ [6, 7, 8, 5, 9, 10, 11, 12] (by decide +kernel) (by decide +kernel)
set_option maxRecDepth 20000 in
theorem gX5_mend_X5_isTrunk : GoodIn wsX5_mend (va_wsS RX5 168 yX5_isTrunk wsX5_isTrunk) := goodIn_app (goodIn_of _ (by decide +kernel)) ggX5_mend_X5_isTrunk
set_option maxRecDepth 20000 in
theorem ggX5_mend_X5_between : GoodIn wsX5_mend wsX5_between := goodIn_r _ [15] (by decide +kernel) (by decide +kernel)
set_option maxRecDepth 20000 in
theorem gX5_mend_X5_between : GoodIn wsX5_mend (va_wsS RX5 125 yX5_between wsX5_between) := goodIn_app (goodIn_of _ (by decide +kernel)) ggX5_mend_X5_between
set_option maxRecDepth 20000 in
theorem ggX5_trunk_X5_isTrunk : GoodIn wsX5_trunk wsX5_isTrunk := goodIn_r _ [6, 7, 8, 5, 9, 10, 11, 12] (by decide +kernel) (by decide +kernel)
set_option maxRecDepth 20000 in
theorem gX5_trunk_X5_isTrunk : GoodIn wsX5_trunk (va_wsS RX5 168 yX5_isTrunk wsX5_isTrunk) := goodIn_app (goodIn_of _ (by decide +kernel)) ggX5_trunk_X5_isTrunk
set_option maxRecDepth 20000 in
theorem ggX5_trunk_X5_between : GoodIn wsX5_trunk wsX5_between := goodIn_r _ [15] (by decide +kernel) (by decide +kernel)
set_option maxRecDepth 20000 in
theorem gX5_trunk_X5_between : GoodIn wsX5_trunk (va_wsS RX5 125 yX5_between wsX5_between) := goodIn_app (goodIn_of _ (by decide +kernel)) ggX5_trunk_X5_between
set_option maxRecDepth 20000 in
theorem ggX5_setLines_X5_isYard : GoodIn wsX5_setLines wsX5_isYard := goodIn_r _ [6, 7, 8, 5, 9] (by decide +kernel) (by decide +kernel)
set_option maxRecDepth 20000 in
theorem gX5_setLines_X5_isYard : GoodIn wsX5_setLines (va_wsS RX5 88 yX5_isYard wsX5_isYard) := goodIn_app (goodIn_of _ (by decide +kernel)) ggX5_setLines_X5_isYard
set_option maxRecDepth 20000 in
theorem ggX5_setLines_X5_in : GoodIn wsX5_setLines wsX5_in := goodIn_r _ [9] (by decide +kernel) (by decide +kernel)
set_option maxRecDepth 20000 in
theorem gX5_setLines_X5_in : GoodIn wsX5_setLines (va_wsS RX5 84 yX5_in wsX5_in) := goodIn_app (goodIn_of _ (by decide +kernel)) ggX5_setLines_X5_in
set_option maxRecDepth 20000 in
theorem ggX5_setLines_X5_callsTo : GoodIn wsX5_setLines wsX5_callsTo := goodIn_r _ [13, 14, 15, 16, 17, 18, 19, 20, 21, 22, 23, 24, 25, 26, 27, 28, 29, 30, 31, 32, 33, 34, 35, 36, 37, 38, 39, 40, 41, 42, 43, 44, 45, 46] (by decide +kernel) (by decide +kernel)
set_option maxRecDepth 20000 in
theorem gX5_setLines_X5_callsTo : GoodIn wsX5_setLines (wsV RX5 136 RX5 yX5_callsTo wsX5_callsTo) := goodIn_app (goodIn_of _ (by decide +kernel)) ggX5_setLines_X5_callsTo
set_option maxRecDepth 20000 in
theorem ggX5_pass_X5_in : GoodIn wsX5_pass wsX5_in := goodIn_r _ [9] (by decide +kernel) (by decide +kernel)
set_option maxRecDepth 20000 in
theorem gX5_pass_X5_in : GoodIn wsX5_pass (va_wsS RX5 84 yX5_in wsX5_in) := goodIn_app (goodIn_of _ (by decide +kernel)) ggX5_pass_X5_in
set_option maxRecDepth 20000 in
theorem ggX5_asksBooking_X5_isBooking : GoodIn wsX5_asksBooking wsX5_isBooking := goodIn_r _ [6, 7, 8, 9, 5, 10, 11, 12, 13, 14, 15, 16, 17, 18, 19, 20, 21, 22, 23, 24, 25, 26, 27, 28, 29, 30, 31, 32, 33, 34, 35, 36, 37, 38, 39, 40] (by decide +kernel) (by decide +kernel)
set_option maxRecDepth 20000 in
theorem gX5_asksBooking_X5_isBooking : GoodIn wsX5_asksBooking (wsV RX5 158 RX5 yX5_isBooking wsX5_isBooking) := goodIn_app (goodIn_of _ (by decide +kernel)) ggX5_asksBooking_X5_isBooking
set_option maxRecDepth 20000 in
theorem ggX5_state_X5_asksBooking : GoodIn wsX5_state wsX5_asksBooking := goodIn_r _ [6, 7, 8, 9, 10, 5, 11, 12, 13, 14, 15, 16, 17, 18, 19, 20, 21, 22, 23, 24, 25, 26, 27, 28, 29, 30, 31, 32, 33, 34, 35, 36, 37, 38, 39, 40, 41, 42, 43, 44, 45] (by decide +kernel) (by decide +kernel)
set_option maxRecDepth 20000 in
theorem gX5_state_X5_asksBooking : GoodIn wsX5_state (wsV RX5 174 RX5 yX5_asksBooking wsX5_asksBooking) := goodIn_app (goodIn_of _ (by decide +kernel)) ggX5_state_X5_asksBooking
set_option maxRecDepth 20000 in
theorem ggX5_wagons_X5_asksBooking : GoodIn wsX5_wagons wsX5_asksBooking := goodIn_r _ [6, 7, 8, 9, 10, 5, 11, 12, 13, 14, 15, 16, 17, 18, 19, 20, 21, 22, 23, 24, 25, 26, 27, 28, 29, 30, 31, 32, 33, 34, 35, 36, 37, 38, 39, 40, 41, 42, 43, 44, 45] (by decide +kernel) (by decide +kernel)
set_option maxRecDepth 20000 in
theorem gX5_wagons_X5_asksBooking : GoodIn wsX5_wagons (wsV RX5 174 RX5 yX5_asksBooking wsX5_asksBooking) := goodIn_app (goodIn_of _ (by decide +kernel)) ggX5_wagons_X5_asksBooking
set_option maxRecDepth 20000 in
theorem ggX5_wagonOf_X5_isBooking : GoodIn wsX5_wagonOf wsX5_isBooking := goodIn_r _ [8, 9, 10, 11, 7, 12, 13, 14, 15, 16, 17, 18, 19, 20, 21, 22, 23, 24, 25, 26, 27, 28, 29, 30, 31, 32, 33, 34, 35, 36, 37, 38, 39, 40, 41, 42] (by decide +kernel) (by decide +kernel)
set_option maxRecDepth 20000 in
theorem gX5_wagonOf_X5_isBooking : GoodIn wsX5_wagonOf (wsV RX5 158 RX5 yX5_isBooking wsX5_isBooking) := goodIn_app (goodIn_of _ (by decide +kernel)) ggX5_wagonOf_X5_isBooking
set_option maxRecDepth 20000 in
theorem ggX5_wagonOf_X5_in : GoodIn wsX5_wagonOf wsX5_in := goodIn_r _ [12] (by decide +kernel) (by decide +kernel)
set_option maxRecDepth 20000 in
theorem gX5_wagonOf_X5_in : GoodIn wsX5_wagonOf (va_wsS RX5 84 yX5_in wsX5_in) := goodIn_app (goodIn_of _ (by decide +kernel)) ggX5_wagonOf_X5_in
set_option maxRecDepth 20000 in
theorem ggX5_lapses_X5_isBooking : GoodIn wsX5_lapses wsX5_isBooking := goodIn_r _ [9, 10, 11, 12, 8, 13, 14, 15, 16, 17, 18, 19, 20, 21, 22, 23, 24, 25, 26, 27, 28, 29, 30, 31, 32, 33, 34, 35, 36, 37, 38, 39, 40, 41, 42, 43] (by decide +kernel) (by decide +kernel)
set_option maxRecDepth 20000 in
theorem gX5_lapses_X5_isBooking : GoodIn wsX5_lapses (wsV RX5 158 RX5 yX5_isBooking wsX5_isBooking) := goodIn_app (goodIn_of _ (by decide +kernel)) ggX5_lapses_X5_isBooking
set_option maxRecDepth 20000 in
theorem ggX5_canDepart_X5_areOn : GoodIn wsX5_canDepart wsX5_areOn := goodIn_r _ [9, 10, 11, 12, 13, 14, 15, 16, 17, 18, 19, 20, 21, 22, 23, 24, 25, 26, 27, 28, 29, 30, 31, 32, 33, 34, 35, 36, 37, 38, 39, 40, 41, 42] (by decide +kernel) (by decide +kernel)
set_option maxRecDepth 20000 in
theorem gX5_canDepart_X5_areOn : GoodIn wsX5_canDepart (wsV RX5 177 RX5 yX5_areOn wsX5_areOn) := goodIn_app (goodIn_of _ (by decide +kernel)) ggX5_canDepart_X5_areOn
set_option maxRecDepth 20000 in
theorem ggX5_depart_X5_isTrack : GoodIn wsX5_depart wsX5_isTrack := goodIn_r _ [16, 17, 18, 15, 19, 20, 21, 22] (by decide +kernel) (by decide +kernel)
set_option maxRecDepth 20000 in
theorem gX5_depart_X5_isTrack : GoodIn wsX5_depart (va_wsS RX5 95 yX5_isTrack wsX5_isTrack) := goodIn_app (goodIn_of _ (by decide +kernel)) ggX5_depart_X5_isTrack
set_option maxRecDepth 20000 in
theorem ggX5_depart_X5_isYard : GoodIn wsX5_depart wsX5_isYard := goodIn_r _ [19, 20, 21, 15, 22] (by decide +kernel) (by decide +kernel)
set_option maxRecDepth 20000 in
theorem gX5_depart_X5_isYard : GoodIn wsX5_depart (va_wsS RX5 88 yX5_isYard wsX5_isYard) := goodIn_app (goodIn_of _ (by decide +kernel)) ggX5_depart_X5_isYard
set_option maxRecDepth 20000 in
theorem ggX5_depart_X5_canDepart : GoodIn wsX5_depart wsX5_canDepart := goodIn_r _ [26, 2, 9, 3, 10, 27, 28, 29, 15, 30, 31, 6, 32, 33, 34, 35, 36, 37, 38, 39, 40, 41, 42, 43, 44, 45, 46, 47, 48, 49, 50, 51, 52, 53, 54, 55, 56, 57, 58, 59, 60, 61, 62] (by decide +kernel) (by decide +kernel)
set_option maxRecDepth 20000 in
theorem gX5_depart_X5_canDepart : GoodIn wsX5_depart (wsV RX5 180 RX5 yX5_canDepart wsX5_canDepart) := goodIn_app (goodIn_of _ (by decide +kernel)) ggX5_depart_X5_canDepart
set_option maxRecDepth 20000 in
theorem ggX5_arrive_X5_in : GoodIn wsX5_arrive wsX5_in := goodIn_r _ [13] (by decide +kernel) (by decide +kernel)
set_option maxRecDepth 20000 in
theorem gX5_arrive_X5_in : GoodIn wsX5_arrive (va_wsS RX5 84 yX5_in wsX5_in) := goodIn_app (goodIn_of _ (by decide +kernel)) ggX5_arrive_X5_in
set_option maxRecDepth 20000 in
theorem ggX5_arrive_X5_puts : GoodIn wsX5_arrive wsX5_puts := goodIn_r _ [17, 18, 4, 19, 20, 21, 22, 23, 24, 25, 26, 27, 28, 29, 30, 31, 32, 33, 34, 35, 36, 37, 38, 39, 40, 41, 42, 43, 44, 45, 46, 47, 48, 49] (by decide +kernel) (by decide +kernel)
set_option maxRecDepth 20000 in
theorem gX5_arrive_X5_puts : GoodIn wsX5_arrive (wsV RX5 99 RX5 yX5_puts wsX5_puts) := goodIn_app (goodIn_of _ (by decide +kernel)) ggX5_arrive_X5_puts
set_option maxRecDepth 20000 in
theorem ggL_wagon_X4_wagon : GoodIn wsL_wagon wsX4_wagon := goodIn_ca (goodIn_ca (goodIn_r _ [6, 7, 8, 9, 10, 11, 12, 13, 5, 14, 15, 16, 17, 18, 19, 20, 21, 22, 23, 24, 25, 26, 27, 28, 29, 30, 31, 32, 33, 34, 35, 36, 37, 38, 39, 40, 41, 42, 43, 44, 45, 46, 47, 48, 49, 50, 51, 52, 53, 54, 55, 56, 57, 58, 59, 60, 61, 62, 63, 64, 65, 66, 67] (by decide +kernel) (by decide +kernel)) (goodIn_sub (fun _ h => List.mem_cons_of_mem _ (List.mem_append_left _ (List.mem_append_right _ h))) (by decide +kernel))) (goodIn_sub (fun _ h => List.mem_cons_of_mem _ (List.mem_append_right _ h)) (by decide +kernel))
set_option maxRecDepth 20000 in
theorem gL_wagon_X4_wagon : GoodIn wsL_wagon (wsV RL 7 RX4 yX4_wagon wsX4_wagon) := goodIn_app (goodIn_of _ (by decide +kernel)) ggL_wagon_X4_wagon
set_option maxRecDepth 20000 in
theorem ggL_shunt_X4_shunt : GoodIn wsL_shunt wsX4_shunt := goodIn_ca (goodIn_ca (goodIn_r _ [6, 7, 8, 9, 10, 11, 12, 13, 5, 14, 15, 16, 17, 18, 19, 20, 21, 22, 23, 24, 25, 26, 27, 28, 29, 30, 31, 32, 33, 34, 35, 36, 37, 38, 39, 40, 41, 42, 43, 44, 45, 46, 47, 48, 49, 50, 51, 52, 53, 54, 55, 56, 57, 58, 59, 60, 61, 62, 63, 64, 65, 66, 67, 68, 69, 70] (by decide +kernel) (by decide +kernel)) (goodIn_sub (fun _ h => List.mem_cons_of_mem _ (List.mem_append_left _ (List.mem_append_right _ h))) (by decide +kernel))) (goodIn_sub (fun _ h => List.mem_cons_of_mem _ (List.mem_append_right _ h)) (by decide +kernel))
set_option maxRecDepth 20000 in
theorem gL_shunt_X4_shunt : GoodIn wsL_shunt (wsV RL 17 RX4 yX4_shunt wsX4_shunt) := goodIn_app (goodIn_of _ (by decide +kernel)) ggL_shunt_X4_shunt
set_option maxRecDepth 20000 in
theorem ggL_wash_X4_wash : GoodIn wsL_wash wsX4_wash := goodIn_ca (goodIn_ca (goodIn_r _ [6, 7, 8, 9, 10, 11, 12, 5, 13, 14, 15, 16, 17, 18, 19, 20, 21, 22, 23, 24, 25, 26, 27, 28, 29, 30, 31, 32, 33, 34, 35, 36, 37, 38, 39, 40, 41, 42, 43, 44, 45, 46] (by decide +kernel) (by decide +kernel)) (goodIn_sub (fun _ h => List.mem_cons_of_mem _ (List.mem_append_left _ (List.mem_append_right _ h))) (by decide +kernel))) (goodIn_sub (fun _ h => List.mem_cons_of_mem _ (List.mem_append_right _ h)) (by decide +kernel))
set_option maxRecDepth 20000 in
theorem gL_wash_X4_wash : GoodIn wsL_wash (wsV RL 21 RX4 yX4_wash wsX4_wash) := goodIn_app (goodIn_of _ (by decide +kernel)) ggL_wash_X4_wash
set_option maxRecDepth 20000 in
theorem ggL_follow_X4_follow : GoodIn wsL_follow wsX4_follow := goodIn_ca (goodIn_r _ [6, 7, 8, 9, 10, 11, 5, 12, 13, 14, 15, 16, 17, 18, 19, 20, 21, 22, 23, 24] (by decide +kernel) (by decide +kernel)) (goodIn_sub (fun _ h => List.mem_cons_of_mem _ (List.mem_append_right _ h)) (by decide +kernel))
set_option maxRecDepth 20000 in
theorem gL_follow_X4_follow : GoodIn wsL_follow (wsV RL 25 RX4 yX4_follow wsX4_follow) := goodIn_app (goodIn_of _ (by decide +kernel)) ggL_follow_X4_follow
set_option maxRecDepth 20000 in
theorem ggL_on_X4_on : GoodIn wsL_on wsX4_on := goodIn_ca (goodIn_r _ [6, 7, 8, 9, 5, 10, 11, 12, 13, 14, 15, 16, 17, 18, 19, 20, 21, 22, 23, 24, 25, 26, 27, 28, 29, 30, 31, 32, 33, 34, 35, 36, 37, 38, 39, 40, 41] (by decide +kernel) (by decide +kernel)) (goodIn_sub (fun _ h => List.mem_cons_of_mem _ (List.mem_append_right _ h)) (by decide +kernel))
set_option maxRecDepth 20000 in
theorem gL_on_X4_on : GoodIn wsL_on (wsV RL 29 RX4 yX4_on wsX4_on) := goodIn_app (goodIn_of _ (by decide +kernel)) ggL_on_X4_on
set_option maxRecDepth 20000 in
theorem ggL_at_X4_at : GoodIn wsL_at wsX4_at := goodIn_ca (goodIn_ca (goodIn_r _ [6, 7, 8, 9, 5, 10, 11, 12, 13, 14, 15, 16, 17, 18, 19, 20, 21, 22, 23, 24, 25, 26, 27, 28, 29, 30, 31, 32, 33, 34, 35, 36, 37, 38, 39, 40, 41, 42, 43, 44, 45, 46, 47, 48, 49, 50, 51] (by decide +kernel) (by decide +kernel)) (goodIn_sub (fun _ h => List.mem_cons_of_mem _ (List.mem_append_left _ (List.mem_append_right _ h))) (by decide +kernel))) (goodIn_sub (fun _ h => List.mem_cons_of_mem _ (List.mem_append_right _ h)) (by decide +kernel))
set_option maxRecDepth 20000 in
theorem gL_at_X4_at : GoodIn wsL_at (wsV RL 32 RX4 yX4_at wsX4_at) := goodIn_app (goodIn_of _ (by decide +kernel)) ggL_at_X4_at
set_option maxRecDepth 20000 in
theorem ggL_atByReplay_X4_atByReplay : GoodIn wsL_atByReplay wsX4_atByReplay := goodIn_ca (goodIn_ca (goodIn_r _ [6, 7, 8, 9, 10, 5, 11, 12, 13, 14, 15, 16, 17, 18, 19, 20, 21, 22, 23, 24, 25, 26, 27, 28, 29, 30, 31, 32, 33, 34, 35, 36, 37, 38, 39, 40, 41, 42, 43, 44, 45, 46, 47, 48, 49, 50, 51, 52, 53, 54, 55, 56, 57, 58, 59, 60, 61, 62, 63, 64, 65, 66, 67, 68, 69, 70, 71, 72, 73, 74, 75, 76, 77, 78, 79, 80, 81] (by decide +kernel) (by decide +kernel)) (goodIn_sub (fun _ h => List.mem_cons_of_mem _ (List.mem_append_left _ (List.mem_append_right _ h))) (by decide +kernel))) (goodIn_sub (fun _ h => List.mem_cons_of_mem _ (List.mem_append_right _ h)) (by decide +kernel))
set_option maxRecDepth 20000 in
theorem gL_atByReplay_X4_atByReplay : GoodIn wsL_atByReplay (wsV RL 38 RX4 yX4_atByReplay wsX4_atByReplay) := goodIn_app (goodIn_of _ (by decide +kernel)) ggL_atByReplay_X4_atByReplay
set_option maxRecDepth 20000 in
theorem ggL_where_X4_where : GoodIn wsL_where wsX4_where := goodIn_ca (goodIn_r _ [6, 7, 8, 9, 10, 5, 11, 12, 13, 14, 15, 16, 17, 18, 19, 20, 21, 22, 23, 24, 25, 26, 27, 28, 29, 30, 31, 32, 33, 34, 35, 36, 37, 38, 39] (by decide +kernel) (by decide +kernel)) (goodIn_sub (fun _ h => List.mem_cons_of_mem _ (List.mem_append_right _ h)) (by decide +kernel))
set_option maxRecDepth 20000 in
theorem gL_where_X4_where : GoodIn wsL_where (wsV RL 41 RX4 yX4_where wsX4_where) := goodIn_app (goodIn_of _ (by decide +kernel)) ggL_where_X4_where
set_option maxRecDepth 20000 in
theorem ggL_carried_X4_carried : GoodIn wsL_carried wsX4_carried := goodIn_ca (goodIn_r _ [6, 7, 8, 9, 10, 5, 11, 12, 13, 14, 15, 16, 17, 18, 19, 20, 21, 22, 23, 24, 25, 26] (by decide +kernel) (by decide +kernel)) (goodIn_sub (fun _ h => List.mem_cons_of_mem _ (List.mem_append_right _ h)) (by decide +kernel))
set_option maxRecDepth 20000 in
theorem gL_carried_X4_carried : GoodIn wsL_carried (wsV RL 44 RX4 yX4_carried wsX4_carried) := goodIn_app (goodIn_of _ (by decide +kernel)) ggL_carried_X4_carried
set_option maxRecDepth 20000 in
theorem ggL_promised_X4_promised : GoodIn wsL_promised wsX4_promised := goodIn_ca (goodIn_r _ [6, 7, 8, 9, 10, 5, 11, 12, 13, 14, 15, 16, 17, 18, 19, 20, 21, 22, 23, 24, 25, 26, 27, 28, 29, 30, 31, 32, 33, 34, 35, 36, 37, 38, 39, 40, 41] (by decide +kernel) (by decide +kernel)) (goodIn_sub (fun _ h => List.mem_cons_of_mem _ (List.mem_append_right _ h)) (by decide +kernel))
set_option maxRecDepth 20000 in
theorem gL_promised_X4_promised : GoodIn wsL_promised (wsV RL 47 RX4 yX4_promised wsX4_promised) := goodIn_app (goodIn_of _ (by decide +kernel)) ggL_promised_X4_promised
set_option maxRecDepth 20000 in
theorem ggL_call_X4_call : GoodIn wsL_call wsX4_call := goodIn_ca (goodIn_ca (goodIn_r _ [6, 7, 8, 9, 10, 11, 12, 5, 13, 14, 15, 16, 17, 18, 19, 20, 21, 22, 23, 24, 25, 26, 27, 28, 29, 30, 31, 32, 33, 34, 35, 36, 37, 38, 39, 40, 41, 42, 43, 44, 45, 46, 47, 48, 49, 50, 51, 52, 53, 54, 55, 56, 57, 58, 59, 60, 61, 62, 63, 64, 65, 66, 67, 68, 69, 70, 71, 72, 73, 74, 75, 76, 77, 78, 79, 80, 81, 82] (by decide +kernel) (by decide +kernel)) (goodIn_sub (fun _ h => List.mem_cons_of_mem _ (List.mem_append_left _ (List.mem_append_right _ h))) (by decide +kernel))) (goodIn_sub (fun _ h => List.mem_cons_of_mem _ (List.mem_append_right _ h)) (by decide +kernel))
set_option maxRecDepth 20000 in
theorem gL_call_X4_call : GoodIn wsL_call (wsV RL 50 RX4 yX4_call wsX4_call) := goodIn_app (goodIn_of _ (by decide +kernel)) ggL_call_X4_call
set_option maxRecDepth 20000 in
theorem ggL_ask_X4_ask : GoodIn wsL_ask wsX4_ask := goodIn_ca (goodIn_ca (goodIn_ca (goodIn_r _ [6, 7, 8, 9, 10, 11, 12, 13, 14, 15, 5, 16, 17, 18, 19, 20, 21, 22, 23, 24, 25, 26, 27, 28, 29, 30, 31, 32, 33, 34, 35, 36, 37, 38, 39, 40, 41, 42, 43, 44, 45, 46, 47, 48, 49, 50, 51, 52, 53, 54, 55, 56, 57, 58, 59, 60, 61, 62, 63, 64, 65, 66, 67, 68, 69, 70, 71, 72, 73, 74, 75, 76, 77, 78, 79, 80, 81, 82, 83, 84, 85, 86, 87, 88, 89, 90, 91, 92, 93, 94, 95, 96, 97, 98, 99, 100, 101, 102, 103, 104, 105, 106, 107, 108, 109, 110, 111, 112, 113, 114, 115, 116, 117, 118, 119, 120, 121, 122, 123, 124, 125, 126, 127, 128, 129, 130, 131, 132, 133, 134, 135, 136, 137, 138, 139, 140, 141] (by decide +kernel) (by decide +kernel)) (goodIn_sub (fun _ h => List.mem_cons_of_mem _ (List.mem_append_left _ (List.mem_append_left _ (List.mem_append_right _ h)))) (by decide +kernel))) (goodIn_sub (fun _ h => List.mem_cons_of_mem _ (List.mem_append_left _ (List.mem_append_right _ h))) (by decide +kernel))) (goodIn_sub (fun _ h => List.mem_cons_of_mem _ (List.mem_append_right _ h)) (by decide +kernel))
set_option maxRecDepth 20000 in
theorem gL_ask_X4_ask : GoodIn wsL_ask (wsV RL 53 RX4 yX4_ask wsX4_ask) := goodIn_app (goodIn_of _ (by decide +kernel)) ggL_ask_X4_ask
set_option maxRecDepth 20000 in
theorem ggL_confirm_X4_confirm : GoodIn wsL_confirm wsX4_confirm := goodIn_ca (goodIn_ca (goodIn_r _ [6, 7, 8, 9, 10, 11, 12, 13, 5, 14, 15, 16, 17, 18, 19, 20, 21, 22, 23, 24, 25, 26, 27, 28, 29, 30, 31, 32, 33, 34, 35, 36, 37, 38, 39, 40, 41, 42, 43, 44, 45, 46, 47, 48, 49, 50, 51, 52, 53, 54, 55, 56, 57, 58, 59, 60, 61, 62, 63, 64, 65, 66, 67, 68, 69, 70, 71, 72, 73, 74, 75, 76, 77] (by decide +kernel) (by decide +kernel)) (goodIn_sub (fun _ h => List.mem_cons_of_mem _ (List.mem_append_left _ (List.mem_append_right _ h))) (by decide +kernel))) (goodIn_sub (fun _ h => List.mem_cons_of_mem _ (List.mem_append_right _ h)) (by decide +kernel))
set_option maxRecDepth 20000 in
theorem gL_confirm_X4_confirm : GoodIn wsL_confirm (wsV RL 56 RX4 yX4_confirm wsX4_confirm) := goodIn_app (goodIn_of _ (by decide +kernel)) ggL_confirm_X4_confirm
set_option maxRecDepth 20000 in
theorem ggL_resume_X4_resume : GoodIn wsL_resume wsX4_resume := goodIn_ca (goodIn_ca (goodIn_r _ [6, 7, 8, 9, 10, 11, 12, 13, 5, 14, 15, 16, 17, 18, 19, 20, 21, 22, 23, 24, 25, 26, 27, 28, 29, 30, 31, 32, 33, 34, 35, 36, 37, 38, 39, 40, 41, 42, 43, 44, 45, 46, 47, 48, 49, 50, 51, 52, 53, 54, 55, 56, 57, 58, 59, 60, 61, 62, 63, 64, 65, 66, 67, 68, 69, 70, 71, 72, 73, 74, 75, 76, 77, 78, 79, 80, 81, 82, 83, 84, 85, 86, 87, 88, 89, 90, 91, 92, 93, 94, 95, 96, 97, 98, 99, 100, 101, 102, 103, 104, 105, 106, 107, 108, 109, 110, 111, 112, 113, 114, 115, 116, 117, 118] (by decide +kernel) (by decide +kernel)) (goodIn_sub (fun _ h => List.mem_cons_of_mem _ (List.mem_append_left _ (List.mem_append_right _ h))) (by decide +kernel))) (goodIn_sub (fun _ h => List.mem_cons_of_mem _ (List.mem_append_right _ h)) (by decide +kernel))
set_option maxRecDepth 20000 in
theorem gL_resume_X4_resume : GoodIn wsL_resume (wsV RL 59 RX4 yX4_resume wsX4_resume) := goodIn_app (goodIn_of _ (by decide +kernel)) ggL_resume_X4_resume
set_option maxRecDepth 20000 in
theorem ggL_cancel_X4_cancel : GoodIn wsL_cancel wsX4_cancel := goodIn_ca (goodIn_ca (goodIn_r _ [6, 7, 8, 9, 10, 11, 12, 5, 13, 14, 15, 16, 17, 18, 19, 20, 21, 22, 23, 24, 25, 26, 27, 28, 29, 30, 31, 32, 33, 34, 35, 36, 37, 38, 39, 40, 41, 42, 43, 44, 45, 46, 47, 48, 49, 50, 51, 52, 53, 54, 55, 56, 57, 58, 59, 60, 61, 62, 63, 64, 65, 66, 67, 68, 69, 70, 71, 72, 73, 74, 75, 76, 77, 78, 79, 80, 81, 82, 83, 84, 85, 86, 87, 88, 89, 90, 91, 92, 93, 94, 95, 96, 97, 98, 99, 100, 101, 102, 103, 104, 105, 106, 107, 108, 109, 110, 111, 112, 113, 114, 115] (by decide +kernel) (by decide +kernel)) (goodIn_sub (fun _ h => List.mem_cons_of_mem _ (List.mem_append_left _ (List.mem_append_right _ h))) (by decide +kernel))) (goodIn_sub (fun _ h => List.mem_cons_of_mem _ (List.mem_append_right _ h)) (by decide +kernel))
set_option maxRecDepth 20000 in
theorem gL_cancel_X4_cancel : GoodIn wsL_cancel (wsV RL 62 RX4 yX4_cancel wsX4_cancel) := goodIn_app (goodIn_of _ (by decide +kernel)) ggL_cancel_X4_cancel
set_option maxRecDepth 20000 in
theorem ggL_hangUp_X4_hangUp : GoodIn wsL_hangUp wsX4_hangUp := goodIn_ca (goodIn_ca (goodIn_r _ [6, 7, 8, 9, 10, 11, 5, 12, 13, 14, 15, 16, 17, 18, 19, 20, 21, 22, 23, 24, 25, 26, 27, 28, 29, 30, 31, 32, 33, 34, 35, 36, 37, 38, 39, 40, 41, 42, 43, 44, 45, 46, 47, 48, 49, 50, 51, 52, 53, 54, 55, 56, 57, 58, 59, 60, 61, 62, 63, 64, 65, 66, 67, 68, 69, 70, 71, 72, 73, 74, 75, 76, 77, 78, 79, 80, 81, 82, 83, 84, 85, 86, 87, 88, 89, 90, 91, 92, 93, 94, 95] (by decide +kernel) (by decide +kernel)) (goodIn_sub (fun _ h => List.mem_cons_of_mem _ (List.mem_append_left _ (List.mem_append_right _ h))) (by decide +kernel))) (goodIn_sub (fun _ h => List.mem_cons_of_mem _ (List.mem_append_right _ h)) (by decide +kernel))
set_option maxRecDepth 20000 in
theorem gL_hangUp_X4_hangUp : GoodIn wsL_hangUp (wsV RL 65 RX4 yX4_hangUp wsX4_hangUp) := goodIn_app (goodIn_of _ (by decide +kernel)) ggL_hangUp_X4_hangUp
set_option maxRecDepth 20000 in
theorem ggL_callOf_X4_callOf : GoodIn wsL_callOf wsX4_callOf := goodIn_ca (goodIn_r _ [6, 7, 8, 9, 5, 10, 11, 12, 13, 14, 15, 16, 17, 18, 19, 20, 21, 22, 23, 24, 25, 26, 27, 28, 29, 30, 31, 32, 33, 34, 35, 36, 37, 38, 39] (by decide +kernel) (by decide +kernel)) (goodIn_sub (fun _ h => List.mem_cons_of_mem _ (List.mem_append_right _ h)) (by decide +kernel))
set_option maxRecDepth 20000 in
theorem gL_callOf_X4_callOf : GoodIn wsL_callOf (wsV RL 68 RX4 yX4_callOf wsX4_callOf) := goodIn_app (goodIn_of _ (by decide +kernel)) ggL_callOf_X4_callOf
set_option maxRecDepth 20000 in
theorem ggL_way_X4_way : GoodIn wsL_way wsX4_way := goodIn_ca (goodIn_ca (goodIn_r _ [6, 7, 8, 9, 10, 5, 11, 12, 13, 14, 15, 16, 17, 18, 19, 20, 21, 22, 23, 24, 25, 26, 27, 28, 29, 30, 31, 32, 33, 34, 35, 36, 37, 38, 39, 40, 41, 42, 43, 44, 45, 46, 47, 48, 49, 50, 51, 52, 53, 54, 55, 56, 57, 58] (by decide +kernel) (by decide +kernel)) (goodIn_sub (fun _ h => List.mem_cons_of_mem _ (List.mem_append_left _ (List.mem_append_right _ h))) (by decide +kernel))) (goodIn_sub (fun _ h => List.mem_cons_of_mem _ (List.mem_append_right _ h)) (by decide +kernel))
set_option maxRecDepth 20000 in
theorem gL_way_X4_way : GoodIn wsL_way (wsV RL 71 RX4 yX4_way wsX4_way) := goodIn_app (goodIn_of _ (by decide +kernel)) ggL_way_X4_way
set_option maxRecDepth 20000 in
theorem ggL_cut_X4_cut : GoodIn wsL_cut wsX4_cut := goodIn_ca (goodIn_ca (goodIn_r _ [6, 7, 8, 9, 10, 11, 5, 12, 13, 14, 15, 16, 17, 18, 19, 20, 21, 22, 23, 24, 25, 26, 27, 28, 29, 30, 31, 32, 33, 34, 35, 36, 37, 38, 39, 40, 41, 42, 43, 44, 45, 46, 47, 48, 49, 50, 51, 52, 53, 54, 55, 56, 57, 58, 59, 60, 61, 62, 63, 64, 65, 66, 67, 68, 69, 70, 71, 72, 73, 74, 75, 76, 77, 78, 79, 80, 81, 82, 83, 84, 85, 86, 87, 88, 89, 90] (by decide +kernel) (by decide +kernel)) (goodIn_sub (fun _ h => List.mem_cons_of_mem _ (List.mem_append_left _ (List.mem_append_right _ h))) (by decide +kernel))) (goodIn_sub (fun _ h => List.mem_cons_of_mem _ (List.mem_append_right _ h)) (by decide +kernel))
set_option maxRecDepth 20000 in
theorem gL_cut_X4_cut : GoodIn wsL_cut (wsV RL 74 RX4 yX4_cut wsX4_cut) := goodIn_app (goodIn_of _ (by decide +kernel)) ggL_cut_X4_cut
set_option maxRecDepth 20000 in
theorem ggL_mend_X4_mend : GoodIn wsL_mend wsX4_mend := goodIn_ca (goodIn_ca (goodIn_r _ [6, 7, 8, 9, 10, 11, 5, 12, 13, 14, 15, 16, 17, 18, 19, 20, 21, 22, 23, 24, 25, 26, 27, 28, 29, 30, 31, 32, 33, 34, 35, 36, 37, 38, 39, 40, 41, 42, 43, 44, 45, 46, 47, 48, 49, 50, 51] (by decide +kernel) (by decide +kernel)) (goodIn_sub (fun _ h => List.mem_cons_of_mem _ (List.mem_append_left _ (List.mem_append_right _ h))) (by decide +kernel))) (goodIn_sub (fun _ h => List.mem_cons_of_mem _ (List.mem_append_right _ h)) (by decide +kernel))
set_option maxRecDepth 20000 in
theorem gL_mend_X4_mend : GoodIn wsL_mend (wsV RL 77 RX4 yX4_mend wsX4_mend) := goodIn_app (goodIn_of _ (by decide +kernel)) ggL_mend_X4_mend
set_option maxRecDepth 20000 in
theorem ggL_trunk_X4_trunk : GoodIn wsL_trunk wsX4_trunk := goodIn_ca (goodIn_r _ [6, 7, 8, 9, 5, 10, 11, 12, 13, 14, 15, 16, 17, 18, 19, 20, 21, 22, 23, 24, 25, 26, 27, 28, 29, 30, 31, 32, 33, 34, 35, 36, 37, 38, 39, 40, 41, 42, 43, 44, 45] (by decide +kernel) (by decide +kernel)) (goodIn_sub (fun _ h => List.mem_cons_of_mem _ (List.mem_append_right _ h)) (by decide +kernel))
set_option maxRecDepth 20000 in
theorem gL_trunk_X4_trunk : GoodIn wsL_trunk (wsV RL 81 RX4 yX4_trunk wsX4_trunk) := goodIn_app (goodIn_of _ (by decide +kernel)) ggL_trunk_X4_trunk
set_option maxRecDepth 20000 in
theorem ggL_setLines_X4_setLines : GoodIn wsL_setLines wsX4_setLines := goodIn_ca (goodIn_ca (goodIn_r _ [6, 7, 8, 9, 10, 11, 12, 13, 5, 14, 15, 16, 17, 18, 19, 20, 21, 22, 23, 24, 25, 26, 27, 28, 29, 30, 31, 32, 33, 34, 35, 36, 37, 38, 39, 40, 41, 42, 43, 44, 45, 46, 47, 48, 49, 50] (by decide +kernel) (by decide +kernel)) (goodIn_sub (fun _ h => List.mem_cons_of_mem _ (List.mem_append_left _ (List.mem_append_right _ h))) (by decide +kernel))) (goodIn_sub (fun _ h => List.mem_cons_of_mem _ (List.mem_append_right _ h)) (by decide +kernel))
set_option maxRecDepth 20000 in
theorem gL_setLines_X4_setLines : GoodIn wsL_setLines (wsV RL 84 RX4 yX4_setLines wsX4_setLines) := goodIn_app (goodIn_of _ (by decide +kernel)) ggL_setLines_X4_setLines
set_option maxRecDepth 20000 in
theorem ggL_pass_X4_pass : GoodIn wsL_pass wsX4_pass := goodIn_ca (goodIn_ca (goodIn_r _ [6, 7, 8, 9, 10, 11, 12, 13, 14, 15, 16, 17, 18, 19, 20, 21, 22, 23, 24, 25, 26, 27, 28, 29, 30, 31, 32, 33, 34, 35, 36, 37, 38, 39, 40, 41, 42, 43, 44, 45, 46, 47, 48, 49, 50, 51, 52] (by decide +kernel) (by decide +kernel)) (goodIn_sub (fun _ h => List.mem_cons_of_mem _ (List.mem_append_left _ (List.mem_append_right _ h))) (by decide +kernel))) (goodIn_sub (fun _ h => List.mem_cons_of_mem _ (List.mem_append_right _ h)) (by decide +kernel))
set_option maxRecDepth 20000 in
theorem gL_pass_X4_pass : GoodIn wsL_pass (wsV RL 87 RX4 yX4_pass wsX4_pass) := goodIn_app (goodIn_of _ (by decide +kernel)) ggL_pass_X4_pass
set_option maxRecDepth 20000 in
theorem ggL_state_X4_state : GoodIn wsL_state wsX4_state := goodIn_ca (goodIn_r _ [6, 7, 8, 9, 10, 5, 11, 12, 13, 14, 15, 16, 17, 18, 19, 20, 21, 22, 23, 24, 25, 26, 27, 28, 29, 30, 31, 32, 33, 34, 35, 36, 37, 38, 39, 40, 41, 42, 43, 44, 45] (by decide +kernel) (by decide +kernel)) (goodIn_sub (fun _ h => List.mem_cons_of_mem _ (List.mem_append_right _ h)) (by decide +kernel))
set_option maxRecDepth 20000 in
theorem gL_state_X4_state : GoodIn wsL_state (wsV RL 90 RX4 yX4_state wsX4_state) := goodIn_app (goodIn_of _ (by decide +kernel)) ggL_state_X4_state
set_option maxRecDepth 20000 in
theorem ggL_wagons_X4_wagons : GoodIn wsL_wagons wsX4_wagons := goodIn_ca (goodIn_r _ [6, 7, 8, 9, 10, 5, 11, 12, 13, 14, 15, 16, 17, 18, 19, 20, 21, 22, 23, 24, 25, 26, 27, 28, 29, 30, 31, 32, 33, 34, 35, 36, 37, 38, 39, 40, 41, 42, 43, 44, 45] (by decide +kernel) (by decide +kernel)) (goodIn_sub (fun _ h => List.mem_cons_of_mem _ (List.mem_append_right _ h)) (by decide +kernel))
set_option maxRecDepth 20000 in
theorem gL_wagons_X4_wagons : GoodIn wsL_wagons (wsV RL 93 RX4 yX4_wagons wsX4_wagons) := goodIn_app (goodIn_of _ (by decide +kernel)) ggL_wagons_X4_wagons
set_option maxRecDepth 20000 in
theorem ggL_wagonOf_X4_wagonOf : GoodIn wsL_wagonOf wsX4_wagonOf := goodIn_ca (goodIn_r _ [6, 7, 8, 9, 10, 11, 12, 5, 13, 14, 15, 16, 17, 18, 19, 20, 21, 22, 23, 24, 25, 26, 27, 28, 29, 30, 31, 32, 33, 34, 35, 36, 37, 38, 39, 40, 41, 42, 43, 44, 45, 46, 47, 48, 49, 50] (by decide +kernel) (by decide +kernel)) (goodIn_sub (fun _ h => List.mem_cons_of_mem _ (List.mem_append_right _ h)) (by decide +kernel))
set_option maxRecDepth 20000 in
theorem gL_wagonOf_X4_wagonOf : GoodIn wsL_wagonOf (wsV RL 96 RX4 yX4_wagonOf wsX4_wagonOf) := goodIn_app (goodIn_of _ (by decide +kernel)) ggL_wagonOf_X4_wagonOf
set_option maxRecDepth 20000 in
theorem ggL_lapses_X4_lapses : GoodIn wsL_lapses wsX4_lapses := goodIn_ca (goodIn_ca (goodIn_r _ [6, 7, 8, 9, 10, 11, 12, 13, 5, 14, 15, 16, 17, 18, 19, 20, 21, 22, 23, 24, 25, 26, 27, 28, 29, 30, 31, 32, 33, 34, 35, 36, 37, 38, 39, 40, 41, 42, 43, 44, 45, 46, 47, 48, 49, 50, 51, 52, 53] (by decide +kernel) (by decide +kernel)) (goodIn_sub (fun _ h => List.mem_cons_of_mem _ (List.mem_append_left _ (List.mem_append_right _ h))) (by decide +kernel))) (goodIn_sub (fun _ h => List.mem_cons_of_mem _ (List.mem_append_right _ h)) (by decide +kernel))
set_option maxRecDepth 20000 in
theorem gL_lapses_X4_lapses : GoodIn wsL_lapses (wsV RL 99 RX4 yX4_lapses wsX4_lapses) := goodIn_app (goodIn_of _ (by decide +kernel)) ggL_lapses_X4_lapses
set_option maxRecDepth 20000 in
theorem ggL_depart_X4_depart : GoodIn wsL_depart wsX4_depart := goodIn_ca (goodIn_ca (goodIn_r _ [6, 7, 8, 9, 10, 11, 12, 13, 14, 15, 5, 16, 17, 18, 19, 20, 21, 22, 23, 24, 25, 26, 27, 28, 29, 30, 31, 32, 33, 34, 35, 36, 37, 38, 39, 40, 41, 42, 43, 44, 45, 46, 47, 48, 49, 50, 51, 52, 53, 54, 55, 56, 57, 58, 59, 60, 61, 62, 63, 64, 65, 66, 67, 68, 69, 70, 71, 72, 73, 74, 75, 76, 77, 78, 79, 80, 81, 82, 83, 84, 85, 86, 87, 88, 89, 90, 91, 92, 93, 94, 95, 96, 97, 98, 99, 100, 101, 102, 103, 104, 105, 106, 107, 108, 109, 110, 111, 112, 113, 114, 115, 116, 117, 118, 119, 120, 121, 122, 123] (by decide +kernel) (by decide +kernel)) (goodIn_sub (fun _ h => List.mem_cons_of_mem _ (List.mem_append_left _ (List.mem_append_right _ h))) (by decide +kernel))) (goodIn_sub (fun _ h => List.mem_cons_of_mem _ (List.mem_append_right _ h)) (by decide +kernel))
set_option maxRecDepth 20000 in
theorem gL_depart_X4_depart : GoodIn wsL_depart (wsV RL 102 RX4 yX4_depart wsX4_depart) := goodIn_app (goodIn_of _ (by decide +kernel)) ggL_depart_X4_depart
set_option maxRecDepth 20000 in
theorem ggL_arrive_X4_arrive : GoodIn wsL_arrive wsX4_arrive := goodIn_ca (goodIn_ca (goodIn_ca (goodIn_r _ [6, 7, 8, 9, 10, 11, 12, 13, 14, 15, 16, 17, 5, 18, 19, 20, 21, 22, 23, 24, 25, 26, 27, 28, 29, 30, 31, 32, 33, 34, 35, 36, 37, 38, 39, 40, 41, 42, 43, 44, 45, 46, 47, 48, 49, 50, 51, 52, 53, 54, 55, 56, 57, 58, 59, 60, 61, 62, 63, 64, 65, 66, 67, 68, 69, 70, 71, 72, 73, 74, 75, 76, 77, 78, 79, 80, 81, 82, 83, 84, 85, 86, 87, 88, 89, 90, 91, 92, 93, 94, 95, 96, 97, 98, 99, 100, 101, 102, 103] (by decide +kernel) (by decide +kernel)) (goodIn_sub (fun _ h => List.mem_cons_of_mem _ (List.mem_append_left _ (List.mem_append_left _ (List.mem_append_right _ h)))) (by decide +kernel))) (goodIn_sub (fun _ h => List.mem_cons_of_mem _ (List.mem_append_left _ (List.mem_append_right _ h))) (by decide +kernel))) (goodIn_sub (fun _ h => List.mem_cons_of_mem _ (List.mem_append_right _ h)) (by decide +kernel))
set_option maxRecDepth 20000 in
theorem gL_arrive_X4_arrive : GoodIn wsL_arrive (wsV RL 105 RX4 yX4_arrive wsX4_arrive) := goodIn_app (goodIn_of _ (by decide +kernel)) ggL_arrive_X4_arrive
set_option maxRecDepth 20000 in
theorem ggL_law_X4_init : GoodIn wsL_law wsX4_init := goodIn_r _ [9, 10, 11, 12, 13, 14, 15, 16, 17, 18, 19, 20, 21, 22, 23, 24, 25, 26, 27, 28, 29, 30, 31, 32, 33, 34, 35, 36, 37, 38, 39, 40, 41, 42, 43, 44, 45, 46, 47, 48, 49, 50, 51, 52, 53, 54, 55, 56, 57, 58, 59, 60, 61, 62, 63, 64, 65, 66, 67, 68, 69, 70, 71, 72, 73, 74, 75, 878, 879, 836, 837, 838, 839, 840, 841, 842, 843, 844, 845, 846, 847, 880, 881, 882, 883, 884, 885, 886, 887, 888, 889, 890, 891, 892, 893, 894, 895, 896, 897, 898, 899, 900, 901] (by decide +kernel) (by decide +kernel)
set_option maxRecDepth 20000 in
theorem gL_law_X4_init : GoodIn wsL_law (wsX4_init) := ggL_law_X4_init
set_option maxRecDepth 20000 in
theorem ggL_law_X5_init : GoodIn wsL_law wsX5_init := goodIn_r _ [78, 79, 11, 12, 30, 80, 81, 82, 83, 84, 85, 86, 87, 88, 89, 32, 90, 91, 92, 93, 94, 95, 96, 97, 98, 99, 100, 101, 102, 848, 849, 850, 851, 852, 853, 854, 855, 856, 857, 858, 859, 860, 861, 862, 863, 864, 865, 866, 867, 868, 869, 870, 871, 872, 873, 874, 875, 876, 877] (by decide +kernel) (by decide +kernel)
set_option maxRecDepth 20000 in
theorem gL_law_X5_init : GoodIn wsL_law (wsX5_init) := ggL_law_X5_init
set_option maxRecDepth 20000 in
theorem ggL_law_L_wagon : GoodIn wsL_law wsL_wagon := goodIn_ca (goodIn_ca (goodIn_r _ [106, 107, 108, 109, 110, 2, 111, 112, 113, 114, 16, 21, 115, 116, 117, 118, 119, 120, 121, 122, 123, 124, 125, 126, 127, 128, 129, 130, 131, 15, 132, 38, 133, 134, 135, 136, 39, 137, 138, 139, 20, 140, 141, 142, 143, 144, 145, 43, 44, 45, 836, 837, 838, 839, 840, 841, 842, 843, 844, 845, 846, 847, 878, 879, 880, 881, 882, 883] (by decide +kernel) (by decide +kernel)) (goodIn_sub (fun _ h => List.mem_append_left _ (List.mem_append_left _ (List.mem_append_right _ h))) (by decide +kernel))) (goodIn_sub (fun _ h => List.mem_append_left _ (List.mem_append_right _ h)) (by decide +kernel))
set_option maxRecDepth 20000 in
theorem gL_law_L_wagon : GoodIn wsL_law (va_wsS RL 112 yL_wagon wsL_wagon) := goodIn_app (goodIn_of _ (by decide +kernel)) ggL_law_L_wagon
set_option maxRecDepth 20000 in
theorem ggL_law_X5_wagon : GoodIn wsL_law wsX5_wagon := goodIn_r _ [149, 150, 83, 151, 81, 82, 152, 153, 5, 154, 155, 156, 157, 158, 159, 160, 161, 162, 163, 164, 84, 80, 848, 849, 850, 851, 852, 853, 854, 855, 856, 857, 858, 859, 860, 861, 862, 863, 864, 865, 866, 867, 868, 869, 870, 871, 872, 873, 874, 875, 876, 877] (by decide +kernel) (by decide +kernel)
set_option maxRecDepth 20000 in
theorem gL_law_X5_wagon : GoodIn wsL_law (wsV RL 117 RX5 yX5_wagon wsX5_wagon) := goodIn_app (goodIn_of _ (by decide +kernel)) ggL_law_X5_wagon
set_option maxRecDepth 20000 in
theorem ggL_law_X5_thrown : GoodIn wsL_law wsX5_thrown := goodIn_r _ [168, 151, 848, 849, 850, 851, 852, 853, 854, 855, 856, 857, 858, 859, 860, 861, 862, 863, 864, 865, 866, 867, 868, 869, 870, 871, 872, 873, 874, 875, 876, 877] (by decide +kernel) (by decide +kernel)
set_option maxRecDepth 20000 in
theorem gL_law_X5_thrown : GoodIn wsL_law (wsV RL 118 RX5 yX5_thrown wsX5_thrown) := goodIn_app (goodIn_of _ (by decide +kernel)) ggL_law_X5_thrown
set_option maxRecDepth 20000 in
theorem ggL_law_L_shunt : GoodIn wsL_law wsL_shunt := goodIn_ca (goodIn_ca (goodIn_r _ [171, 107, 172, 173, 174, 2, 175, 118, 119, 112, 113, 16, 115, 116, 117, 120, 121, 122, 123, 124, 125, 126, 127, 128, 176, 177, 178, 15, 179, 38, 129, 130, 131, 132, 180, 181, 182, 183, 21, 184, 185, 186, 187, 39, 188, 142, 143, 20, 144, 145, 43, 44, 45, 836, 837, 838, 839, 840, 841, 842, 843, 844, 845, 846, 847, 878, 879, 880, 881, 882, 883] (by decide +kernel) (by decide +kernel)) (goodIn_sub (fun _ h => List.mem_append_left _ (List.mem_append_right _ h)) (by decide +kernel))) (goodIn_sub (fun _ h => List.mem_append_left _ (List.mem_append_left _ (List.mem_append_right _ h))) (by decide +kernel))
set_option maxRecDepth 20000 in
theorem gL_law_L_shunt : GoodIn wsL_law (va_wsS RL 122 yL_shunt wsL_shunt) := goodIn_app (goodIn_of _ (by decide +kernel)) ggL_law_L_shunt
set_option maxRecDepth 20000 in
theorem ggL_law_X5_shunt : GoodIn wsL_law wsX5_shunt := goodIn_r _ [192, 83, 151, 84, 152, 153, 5, 154, 155, 156, 157, 158, 159, 160, 161, 162, 163, 164, 80, 848, 849, 850, 851, 852, 853, 854, 855, 856, 857, 858, 859, 860, 861, 862, 863, 864, 865, 866, 867, 868, 869, 870, 871, 872, 873, 874, 875, 876, 877] (by decide +kernel) (by decide +kernel)
set_option maxRecDepth 20000 in
theorem gL_law_X5_shunt : GoodIn wsL_law (wsV RL 125 RX5 yX5_shunt wsX5_shunt) := goodIn_app (goodIn_of _ (by decide +kernel)) ggL_law_X5_shunt
set_option maxRecDepth 20000 in
theorem ggL_law_L_wash : GoodIn wsL_law wsL_wash := goodIn_ca (goodIn_ca (goodIn_r _ [195, 107, 196, 197, 198, 2, 199, 112, 113, 16, 31, 200, 201, 202, 118, 119, 120, 121, 122, 126, 127, 128, 176, 177, 178, 15, 179, 38, 203, 204, 205, 206, 39, 836, 837, 838, 839, 840, 841, 842, 843, 844, 845, 846, 847, 878, 879] (by decide +kernel) (by decide +kernel)) (goodIn_sub (fun _ h => List.mem_append_left _ (List.mem_append_left _ (List.mem_append_right _ h))) (by decide +kernel))) (goodIn_sub (fun _ h => List.mem_append_left _ (List.mem_append_right _ h)) (by decide +kernel))
set_option maxRecDepth 20000 in
theorem gL_law_L_wash : GoodIn wsL_law (va_wsS RL 126 yL_wash wsL_wash) := goodIn_app (goodIn_of _ (by decide +kernel)) ggL_law_L_wash
set_option maxRecDepth 20000 in
theorem ggL_law_X5_wash : GoodIn wsL_law wsX5_wash := goodIn_r _ [210, 83, 151, 84, 81, 155, 156, 5, 157, 158, 159, 160, 848, 849, 850, 851, 852, 853, 854, 855, 856, 857, 858, 859, 860, 861, 862, 863, 864, 865, 866, 867, 868, 869, 870, 871, 872, 873, 874, 875, 876, 877] (by decide +kernel) (by decide +kernel)
set_option maxRecDepth 20000 in
theorem gL_law_X5_wash : GoodIn wsL_law (wsV RL 129 RX5 yX5_wash wsX5_wash) := goodIn_app (goodIn_of _ (by decide +kernel)) ggL_law_X5_wash
set_option maxRecDepth 20000 in
theorem ggL_law_L_follow : GoodIn wsL_law wsL_follow := goodIn_ca (goodIn_r _ [213, 107, 214, 215, 216, 2, 217, 118, 119, 33, 218, 219, 220, 836, 837, 838, 839, 840, 841, 842, 843, 844, 845, 846, 847] (by decide +kernel) (by decide +kernel)) (goodIn_sub (fun _ h => List.mem_append_left _ (List.mem_append_right _ h)) (by decide +kernel))
set_option maxRecDepth 20000 in
theorem gL_law_L_follow : GoodIn wsL_law (va_wsS RL 130 yL_follow wsL_follow) := goodIn_app (goodIn_of _ (by decide +kernel)) ggL_law_L_follow
set_option maxRecDepth 20000 in
theorem ggL_law_X5_follow : GoodIn wsL_law wsX5_follow := goodIn_r _ [224, 151, 85, 225, 226, 5, 227, 158, 159, 160, 848, 849, 850, 851, 852, 853, 854, 855, 856, 857, 858, 859, 860, 861, 862, 863, 864, 865, 866, 867, 868, 869, 870, 871, 872, 873, 874, 875, 876, 877] (by decide +kernel) (by decide +kernel)
set_option maxRecDepth 20000 in
theorem gL_law_X5_follow : GoodIn wsL_law (wsV RL 132 RX5 yX5_follow wsX5_follow) := goodIn_app (goodIn_of _ (by decide +kernel)) ggL_law_X5_follow
set_option maxRecDepth 20000 in
theorem ggL_law_L_on : GoodIn wsL_law wsL_on := goodIn_ca (goodIn_r _ [230, 107, 231, 232, 233, 2, 234, 16, 115, 116, 117, 118, 119, 120, 121, 122, 123, 124, 125, 126, 127, 128, 176, 177, 178, 15, 179, 38, 836, 837, 838, 839, 840, 841, 842, 843, 844, 845, 846, 847, 878, 879] (by decide +kernel) (by decide +kernel)) (goodIn_sub (fun _ h => List.mem_append_left _ (List.mem_append_right _ h)) (by decide +kernel))
set_option maxRecDepth 20000 in
theorem gL_law_L_on : GoodIn wsL_law (va_wsS RL 133 yL_on wsL_on) := goodIn_app (goodIn_of _ (by decide +kernel)) ggL_law_L_on
set_option maxRecDepth 20000 in
theorem ggL_law_X5_on : GoodIn wsL_law wsX5_on := goodIn_r _ [238, 151, 83, 152, 153, 5, 154, 155, 156, 157, 158, 159, 160, 848, 849, 850, 851, 852, 853, 854, 855, 856, 857, 858, 859, 860, 861, 862, 863, 864, 865, 866, 867, 868, 869, 870, 871, 872, 873, 874, 875, 876, 877] (by decide +kernel) (by decide +kernel)
set_option maxRecDepth 20000 in
theorem gL_law_X5_on : GoodIn wsL_law (wsV RL 135 RX5 yX5_on wsX5_on) := goodIn_app (goodIn_of _ (by decide +kernel)) ggL_law_X5_on
set_option maxRecDepth 20000 in
theorem ggL_law_L_at : GoodIn wsL_law wsL_at := goodIn_ca (goodIn_ca (goodIn_r _ [241, 107, 242, 243, 244, 2, 245, 16, 115, 116, 117, 118, 119, 120, 121, 122, 123, 124, 125, 126, 127, 128, 246, 247, 248, 249, 250, 176, 177, 178, 15, 179, 38, 203, 204, 205, 206, 39, 836, 837, 838, 839, 840, 841, 842, 843, 844, 845, 846, 847, 878, 879] (by decide +kernel) (by decide +kernel)) (goodIn_sub (fun _ h => List.mem_append_left _ (List.mem_append_right _ h)) (by decide +kernel))) (goodIn_sub (fun _ h => List.mem_append_right _ h) (by decide +kernel))
set_option maxRecDepth 20000 in
theorem gL_law_L_at : GoodIn wsL_law (va_wsS RL 136 yL_at wsL_at) := goodIn_app (goodIn_of _ (by decide +kernel)) ggL_law_L_at
set_option maxRecDepth 20000 in
theorem ggL_law_X5_at : GoodIn wsL_law wsX5_at := goodIn_r _ [254, 255, 256, 257, 5, 258, 83, 151, 84, 152, 153, 154, 155, 156, 157, 158, 159, 160, 848, 849, 850, 851, 852, 853, 854, 855, 856, 857, 858, 859, 860, 861, 862, 863, 864, 865, 866, 867, 868, 869, 870, 871, 872, 873, 874, 875, 876, 877] (by decide +kernel) (by decide +kernel)
set_option maxRecDepth 20000 in
theorem gL_law_X5_at : GoodIn wsL_law (wsV RL 139 RX5 yX5_at wsX5_at) := goodIn_app (goodIn_of _ (by decide +kernel)) ggL_law_X5_at
set_option maxRecDepth 20000 in
theorem ggL_law_L_atByReplay : GoodIn wsL_law wsL_atByReplay := goodIn_ca (goodIn_ca (goodIn_r _ [261, 107, 262, 263, 264, 2, 265, 21, 17, 115, 116, 117, 118, 119, 120, 121, 122, 123, 124, 125, 266, 267, 268, 20, 269, 145, 43, 44, 45, 270, 271, 272, 15, 273, 38, 274, 59, 60, 61, 275, 134, 135, 136, 39, 276, 185, 186, 187, 126, 127, 128, 246, 247, 248, 249, 250, 176, 177, 178, 179, 203, 204, 205, 206, 836, 837, 838, 839, 840, 841, 842, 843, 844, 845, 846, 847, 880, 881, 882, 883, 878, 879] (by decide +kernel) (by decide +kernel)) (goodIn_sub (fun _ h => List.mem_append_left _ (List.mem_append_right _ h)) (by decide +kernel))) (goodIn_sub (fun _ h => List.mem_append_right _ h) (by decide +kernel))
set_option maxRecDepth 20000 in
theorem gL_law_L_atByReplay : GoodIn wsL_law (va_wsS RL 140 yL_atByReplay wsL_atByReplay) := goodIn_app (goodIn_of _ (by decide +kernel)) ggL_law_L_atByReplay
set_option maxRecDepth 20000 in
theorem ggL_law_X5_atByReplay : GoodIn wsL_law wsX5_atByReplay := goodIn_r _ [280, 255, 256, 257, 5, 258, 83, 151, 84, 152, 153, 154, 155, 156, 157, 158, 159, 160, 848, 849, 850, 851, 852, 853, 854, 855, 856, 857, 858, 859, 860, 861, 862, 863, 864, 865, 866, 867, 868, 869, 870, 871, 872, 873, 874, 875, 876, 877] (by decide +kernel) (by decide +kernel)
set_option maxRecDepth 20000 in
theorem gL_law_X5_atByReplay : GoodIn wsL_law (wsV RL 142 RX5 yX5_atByReplay wsX5_atByReplay) := goodIn_app (goodIn_of _ (by decide +kernel)) ggL_law_X5_atByReplay
set_option maxRecDepth 20000 in
theorem ggL_law_L_where : GoodIn wsL_law wsL_where := goodIn_ca (goodIn_r _ [283, 284, 285, 286, 287, 2, 288, 16, 289, 290, 291, 292, 249, 250, 114, 293, 294, 295, 15, 296, 38, 297, 204, 205, 206, 39, 836, 837, 838, 839, 840, 841, 842, 843, 844, 845, 846, 847, 878, 879] (by decide +kernel) (by decide +kernel)) (goodIn_sub (fun _ h => List.mem_append_right _ h) (by decide +kernel))
set_option maxRecDepth 20000 in
theorem gL_law_L_where : GoodIn wsL_law (va_wsS RL 143 yL_where wsL_where) := goodIn_app (goodIn_of _ (by decide +kernel)) ggL_law_L_where
set_option maxRecDepth 20000 in
theorem ggL_law_X5_where : GoodIn wsL_law wsX5_where := goodIn_r _ [301, 80, 302, 303, 304, 5, 305, 151, 306, 307, 308, 309, 150, 158, 159, 160, 848, 849, 850, 851, 852, 853, 854, 855, 856, 857, 858, 859, 860, 861, 862, 863, 864, 865, 866, 867, 868, 869, 870, 871, 872, 873, 874, 875, 876, 877] (by decide +kernel) (by decide +kernel)
set_option maxRecDepth 20000 in
theorem gL_law_X5_where : GoodIn wsL_law (wsV RL 145 RX5 yX5_where wsX5_where) := goodIn_app (goodIn_of _ (by decide +kernel)) ggL_law_X5_where
set_option maxRecDepth 20000 in
theorem ggL_law_L_carried : GoodIn wsL_law wsL_carried := goodIn_ca (goodIn_r _ [312, 284, 313, 314, 315, 2, 316, 31, 289, 290, 291, 292, 249, 250, 114, 836, 837, 838, 839, 840, 841, 842, 843, 844, 845, 846, 847] (by decide +kernel) (by decide +kernel)) (goodIn_sub (fun _ h => List.mem_append_right _ h) (by decide +kernel))
set_option maxRecDepth 20000 in
theorem gL_law_L_carried : GoodIn wsL_law (va_wsS RL 146 yL_carried wsL_carried) := goodIn_app (goodIn_of _ (by decide +kernel)) ggL_law_L_carried
set_option maxRecDepth 20000 in
theorem ggL_law_X5_carried : GoodIn wsL_law wsX5_carried := goodIn_r _ [320, 81, 302, 303, 304, 5, 305, 151, 306, 307, 308, 309, 150, 158, 159, 160, 848, 849, 850, 851, 852, 853, 854, 855, 856, 857, 858, 859, 860, 861, 862, 863, 864, 865, 866, 867, 868, 869, 870, 871, 872, 873, 874, 875, 876, 877] (by decide +kernel) (by decide +kernel)
set_option maxRecDepth 20000 in
theorem gL_law_X5_carried : GoodIn wsL_law (wsV RL 148 RX5 yX5_carried wsX5_carried) := goodIn_app (goodIn_of _ (by decide +kernel)) ggL_law_X5_carried
set_option maxRecDepth 20000 in
theorem ggL_law_L_promised : GoodIn wsL_law wsL_promised := goodIn_ca (goodIn_r _ [323, 284, 324, 325, 326, 2, 327, 25, 289, 290, 291, 292, 249, 250, 114, 328, 329, 330, 24, 331, 57, 836, 837, 838, 839, 840, 841, 842, 843, 844, 845, 846, 847, 884, 885, 886, 887, 888, 889, 890, 891, 892] (by decide +kernel) (by decide +kernel)) (goodIn_sub (fun _ h => List.mem_append_right _ h) (by decide +kernel))
set_option maxRecDepth 20000 in
theorem gL_law_L_promised : GoodIn wsL_law (va_wsS RL 149 yL_promised wsL_promised) := goodIn_app (goodIn_of _ (by decide +kernel)) ggL_law_L_promised
set_option maxRecDepth 20000 in
theorem ggL_law_X5_promised : GoodIn wsL_law wsX5_promised := goodIn_r _ [335, 82, 302, 303, 304, 5, 305, 151, 306, 307, 308, 309, 150, 158, 159, 160, 336, 337, 338, 339, 92, 848, 849, 850, 851, 852, 853, 854, 855, 856, 857, 858, 859, 860, 861, 862, 863, 864, 865, 866, 867, 868, 869, 870, 871, 872, 873, 874, 875, 876, 877] (by decide +kernel) (by decide +kernel)
set_option maxRecDepth 20000 in
theorem gL_law_X5_promised : GoodIn wsL_law (wsV RL 151 RX5 yX5_promised wsX5_promised) := goodIn_app (goodIn_of _ (by decide +kernel)) ggL_law_X5_promised
set_option maxRecDepth 20000 in
theorem ggL_law_L_call : GoodIn wsL_law wsL_call := goodIn_ca (goodIn_ca (goodIn_r _ [342, 107, 343, 344, 345, 2, 346, 112, 113, 29, 347, 348, 349, 350, 118, 119, 200, 201, 202, 120, 121, 122, 351, 352, 353, 28, 354, 71, 355, 356, 357, 358, 359, 360, 361, 362, 363, 73, 364, 365, 366, 367, 67, 368, 369, 370, 371, 66, 68, 69, 70, 372, 373, 374, 375, 72, 376, 377, 378, 379, 380, 381, 836, 837, 838, 839, 840, 841, 842, 843, 844, 845, 846, 847, 893, 894, 895, 896, 897, 898, 899, 900, 901] (by decide +kernel) (by decide +kernel)) (goodIn_sub (fun _ h => List.mem_append_left _ (List.mem_append_left _ (List.mem_append_right _ h))) (by decide +kernel))) (goodIn_sub (fun _ h => List.mem_append_left _ (List.mem_append_right _ h)) (by decide +kernel))
set_option maxRecDepth 20000 in
theorem gL_law_L_call : GoodIn wsL_law (va_wsS RL 152 yL_call wsL_call) := goodIn_app (goodIn_of _ (by decide +kernel)) ggL_law_L_call
set_option maxRecDepth 20000 in
theorem ggL_law_X5_call : GoodIn wsL_law wsX5_call := goodIn_r _ [385, 386, 151, 87, 387, 88, 89, 90, 91, 158, 159, 5, 160, 155, 156, 157, 388, 389, 390, 391, 392, 393, 394, 395, 396, 397, 398, 399, 86, 400, 401, 402, 403, 404, 405, 406, 848, 849, 850, 851, 852, 853, 854, 855, 856, 857, 858, 859, 860, 861, 862, 863, 864, 865, 866, 867, 868, 869, 870, 871, 872, 873, 874, 875, 876, 877] (by decide +kernel) (by decide +kernel)
set_option maxRecDepth 20000 in
theorem gL_law_X5_call : GoodIn wsL_law (wsV RL 154 RX5 yX5_call wsX5_call) := goodIn_app (goodIn_of _ (by decide +kernel)) ggL_law_X5_call
set_option maxRecDepth 20000 in
theorem ggL_law_L_ask : GoodIn wsL_law wsL_ask := goodIn_ca (goodIn_ca (goodIn_ca (goodIn_r _ [409, 284, 410, 411, 412, 2, 413, 118, 119, 112, 113, 29, 25, 414, 415, 416, 417, 249, 250, 418, 419, 420, 28, 421, 359, 218, 219, 220, 422, 423, 424, 425, 426, 427, 428, 429, 71, 66, 430, 431, 432, 433, 68, 434, 435, 436, 24, 437, 438, 439, 440, 441, 442, 52, 443, 444, 445, 446, 67, 447, 448, 449, 450, 16, 126, 127, 128, 176, 177, 178, 15, 179, 38, 203, 204, 205, 206, 39, 328, 329, 330, 331, 57, 451, 452, 453, 454, 31, 33, 455, 456, 457, 458, 459, 460, 461, 462, 50, 51, 53, 463, 464, 465, 466, 467, 468, 469, 470, 56, 55, 836, 837, 838, 839, 840, 841, 842, 843, 844, 845, 846, 847, 893, 894, 895, 896, 897, 898, 899, 900, 901, 884, 885, 886, 887, 888, 889, 890, 891, 892, 878, 879] (by decide +kernel) (by decide +kernel)) (goodIn_sub (fun _ h => List.mem_append_left _ (List.mem_append_right _ h)) (by decide +kernel))) (goodIn_sub (fun _ h => List.mem_append_left _ (List.mem_append_left _ (List.mem_append_right _ h))) (by decide +kernel))) (goodIn_sub (fun _ h => List.mem_append_right _ h) (by decide +kernel))
set_option maxRecDepth 20000 in
theorem gL_law_L_ask : GoodIn wsL_law (va_wsS RL 155 yL_ask wsL_ask) := goodIn_app (goodIn_of _ (by decide +kernel)) ggL_law_L_ask
set_option maxRecDepth 20000 in
theorem ggL_law_X5_ask : GoodIn wsL_law wsX5_ask := goodIn_r _ [474, 90, 151, 91, 475, 93, 89, 92, 94, 88, 95, 97, 476, 477, 478, 5, 479, 386, 158, 159, 160, 225, 226, 227, 480, 481, 482, 483, 83, 84, 336, 337, 338, 339, 82, 484, 485, 486, 487, 81, 85, 488, 489, 490, 491, 98, 848, 849, 850, 851, 852, 853, 854, 855, 856, 857, 858, 859, 860, 861, 862, 863, 864, 865, 866, 867, 868, 869, 870, 871, 872, 873, 874, 875, 876, 877] (by decide +kernel) (by decide +kernel)
set_option maxRecDepth 20000 in
theorem gL_law_X5_ask : GoodIn wsL_law (wsV RL 157 RX5 yX5_ask wsX5_ask) := goodIn_app (goodIn_of _ (by decide +kernel)) ggL_law_X5_ask
set_option maxRecDepth 20000 in
theorem ggL_law_L_confirm : GoodIn wsL_law wsL_confirm := goodIn_ca (goodIn_ca (goodIn_r _ [494, 284, 495, 496, 497, 2, 498, 112, 113, 29, 25, 414, 415, 416, 417, 249, 250, 418, 419, 420, 28, 421, 359, 422, 423, 424, 425, 426, 427, 428, 429, 71, 66, 430, 431, 432, 433, 68, 499, 500, 501, 24, 502, 53, 463, 464, 465, 466, 836, 837, 838, 839, 840, 841, 842, 843, 844, 845, 846, 847, 893, 894, 895, 896, 897, 898, 899, 900, 901, 884, 885, 886, 887, 888, 889, 890, 891, 892] (by decide +kernel) (by decide +kernel)) (goodIn_sub (fun _ h => List.mem_append_left _ (List.mem_append_left _ (List.mem_append_right _ h))) (by decide +kernel))) (goodIn_sub (fun _ h => List.mem_append_right _ h) (by decide +kernel))
set_option maxRecDepth 20000 in
theorem gL_law_L_confirm : GoodIn wsL_law (va_wsS RL 158 yL_confirm wsL_confirm) := goodIn_app (goodIn_of _ (by decide +kernel)) ggL_law_L_confirm
set_option maxRecDepth 20000 in
theorem ggL_law_X5_confirm : GoodIn wsL_law wsX5_confirm := goodIn_r _ [506, 90, 91, 151, 92, 476, 477, 478, 5, 479, 386, 158, 159, 160, 848, 849, 850, 851, 852, 853, 854, 855, 856, 857, 858, 859, 860, 861, 862, 863, 864, 865, 866, 867, 868, 869, 870, 871, 872, 873, 874, 875, 876, 877] (by decide +kernel) (by decide +kernel)
set_option maxRecDepth 20000 in
theorem gL_law_X5_confirm : GoodIn wsL_law (wsV RL 160 RX5 yX5_confirm wsX5_confirm) := goodIn_app (goodIn_of _ (by decide +kernel)) ggL_law_X5_confirm
set_option maxRecDepth 20000 in
theorem ggL_law_L_resume : GoodIn wsL_law wsL_resume := goodIn_ca (goodIn_ca (goodIn_r _ [509, 284, 510, 511, 512, 2, 513, 112, 113, 29, 25, 414, 415, 416, 417, 249, 250, 418, 419, 420, 28, 421, 359, 514, 515, 516, 517, 518, 519, 520, 24, 521, 438, 422, 423, 424, 425, 426, 427, 428, 429, 71, 66, 430, 431, 432, 433, 68, 522, 523, 524, 525, 526, 527, 528, 529, 53, 530, 531, 532, 533, 50, 455, 456, 457, 458, 534, 535, 536, 537, 51, 443, 444, 445, 446, 67, 499, 500, 501, 502, 463, 464, 465, 466, 538, 539, 540, 541, 55, 836, 837, 838, 839, 840, 841, 842, 843, 844, 845, 846, 847, 893, 894, 895, 896, 897, 898, 899, 900, 901, 884, 885, 886, 887, 888, 889, 890, 891, 892] (by decide +kernel) (by decide +kernel)) (goodIn_sub (fun _ h => List.mem_append_left _ (List.mem_append_left _ (List.mem_append_right _ h))) (by decide +kernel))) (goodIn_sub (fun _ h => List.mem_append_right _ h) (by decide +kernel))
set_option maxRecDepth 20000 in
theorem gL_law_L_resume : GoodIn wsL_law (va_wsS RL 161 yL_resume wsL_resume) := goodIn_app (goodIn_of _ (by decide +kernel)) ggL_law_L_resume
set_option maxRecDepth 20000 in
theorem ggL_law_X5_resume : GoodIn wsL_law wsX5_resume := goodIn_r _ [545, 151, 90, 91, 92, 97, 476, 477, 478, 5, 479, 386, 158, 159, 160, 546, 547, 548, 549, 475, 550, 551, 552, 553, 94, 88, 95, 89, 848, 849, 850, 851, 852, 853, 854, 855, 856, 857, 858, 859, 860, 861, 862, 863, 864, 865, 866, 867, 868, 869, 870, 871, 872, 873, 874, 875, 876, 877] (by decide +kernel) (by decide +kernel)
set_option maxRecDepth 20000 in
theorem gL_law_X5_resume : GoodIn wsL_law (wsV RL 163 RX5 yX5_resume wsX5_resume) := goodIn_app (goodIn_of _ (by decide +kernel)) ggL_law_X5_resume
set_option maxRecDepth 20000 in
theorem ggL_law_L_cancel : GoodIn wsL_law wsL_cancel := goodIn_ca (goodIn_ca (goodIn_r _ [556, 284, 557, 558, 559, 2, 560, 112, 113, 25, 414, 415, 416, 417, 249, 250, 29, 418, 419, 420, 28, 421, 359, 514, 515, 516, 517, 518, 519, 520, 24, 521, 438, 422, 423, 424, 425, 426, 427, 428, 429, 71, 66, 522, 523, 524, 525, 526, 527, 528, 529, 53, 530, 531, 532, 533, 50, 455, 456, 457, 458, 534, 535, 536, 537, 51, 443, 444, 445, 446, 67, 561, 562, 563, 564, 55, 57, 565, 566, 567, 568, 56, 538, 539, 540, 541, 836, 837, 838, 839, 840, 841, 842, 843, 844, 845, 846, 847, 893, 894, 895, 896, 897, 898, 899, 900, 901, 884, 885, 886, 887, 888, 889, 890, 891, 892] (by decide +kernel) (by decide +kernel)) (goodIn_sub (fun _ h => List.mem_append_left _ (List.mem_append_left _ (List.mem_append_right _ h))) (by decide +kernel))) (goodIn_sub (fun _ h => List.mem_append_right _ h) (by decide +kernel))
set_option maxRecDepth 20000 in
theorem gL_law_L_cancel : GoodIn wsL_law (va_wsS RL 164 yL_cancel wsL_cancel) := goodIn_app (goodIn_of _ (by decide +kernel)) ggL_law_L_cancel
set_option maxRecDepth 20000 in
theorem ggL_law_X5_cancel : GoodIn wsL_law wsX5_cancel := goodIn_r _ [572, 151, 90, 92, 97, 476, 477, 478, 5, 479, 386, 158, 159, 160, 546, 547, 548, 549, 475, 550, 551, 552, 553, 94, 88, 95, 89, 848, 849, 850, 851, 852, 853, 854, 855, 856, 857, 858, 859, 860, 861, 862, 863, 864, 865, 866, 867, 868, 869, 870, 871, 872, 873, 874, 875, 876, 877] (by decide +kernel) (by decide +kernel)
set_option maxRecDepth 20000 in
theorem gL_law_X5_cancel : GoodIn wsL_law (wsV RL 166 RX5 yX5_cancel wsX5_cancel) := goodIn_app (goodIn_of _ (by decide +kernel)) ggL_law_X5_cancel
set_option maxRecDepth 20000 in
theorem ggL_law_L_hangUp : GoodIn wsL_law wsL_hangUp := goodIn_ca (goodIn_ca (goodIn_r _ [575, 284, 576, 577, 578, 2, 579, 29, 25, 414, 415, 416, 417, 249, 250, 418, 419, 420, 28, 421, 359, 422, 423, 424, 425, 112, 113, 426, 427, 428, 429, 71, 66, 430, 431, 432, 433, 68, 580, 581, 582, 583, 69, 70, 372, 373, 374, 375, 72, 561, 562, 563, 24, 564, 53, 55, 57, 565, 566, 567, 568, 56, 538, 539, 540, 541, 836, 837, 838, 839, 840, 841, 842, 843, 844, 845, 846, 847, 893, 894, 895, 896, 897, 898, 899, 900, 901, 884, 885, 886, 887, 888, 889, 890, 891, 892] (by decide +kernel) (by decide +kernel)) (goodIn_sub (fun _ h => List.mem_append_right _ h) (by decide +kernel))) (goodIn_sub (fun _ h => List.mem_append_left _ (List.mem_append_left _ (List.mem_append_right _ h))) (by decide +kernel))
set_option maxRecDepth 20000 in
theorem gL_law_L_hangUp : GoodIn wsL_law (va_wsS RL 167 yL_hangUp wsL_hangUp) := goodIn_app (goodIn_of _ (by decide +kernel)) ggL_law_L_hangUp
set_option maxRecDepth 20000 in
theorem ggL_law_X5_hangUp : GoodIn wsL_law wsX5_hangUp := goodIn_r _ [587, 90, 151, 91, 92, 97, 476, 477, 478, 5, 479, 386, 158, 159, 160, 588, 589, 590, 591, 86, 848, 849, 850, 851, 852, 853, 854, 855, 856, 857, 858, 859, 860, 861, 862, 863, 864, 865, 866, 867, 868, 869, 870, 871, 872, 873, 874, 875, 876, 877] (by decide +kernel) (by decide +kernel)
set_option maxRecDepth 20000 in
theorem gL_law_X5_hangUp : GoodIn wsL_law (wsV RL 169 RX5 yX5_hangUp wsX5_hangUp) := goodIn_app (goodIn_of _ (by decide +kernel)) ggL_law_X5_hangUp
set_option maxRecDepth 20000 in
theorem ggL_law_L_callOf : GoodIn wsL_law wsL_callOf := goodIn_ca (goodIn_r _ [594, 107, 595, 596, 597, 2, 598, 29, 348, 349, 350, 118, 119, 351, 352, 353, 28, 354, 71, 836, 837, 838, 839, 840, 841, 842, 843, 844, 845, 846, 847, 893, 894, 895, 896, 897, 898, 899, 900, 901] (by decide +kernel) (by decide +kernel)) (goodIn_sub (fun _ h => List.mem_append_left _ (List.mem_append_right _ h)) (by decide +kernel))
set_option maxRecDepth 20000 in
theorem gL_law_L_callOf : GoodIn wsL_law (va_wsS RL 170 yL_callOf wsL_callOf) := goodIn_app (goodIn_of _ (by decide +kernel)) ggL_law_L_callOf
set_option maxRecDepth 20000 in
theorem ggL_law_X5_callOf : GoodIn wsL_law wsX5_callOf := goodIn_r _ [602, 151, 158, 159, 5, 160, 388, 389, 390, 391, 386, 90, 88, 848, 849, 850, 851, 852, 853, 854, 855, 856, 857, 858, 859, 860, 861, 862, 863, 864, 865, 866, 867, 868, 869, 870, 871, 872, 873, 874, 875, 876, 877] (by decide +kernel) (by decide +kernel)
set_option maxRecDepth 20000 in
theorem gL_law_X5_callOf : GoodIn wsL_law (wsV RL 172 RX5 yX5_callOf wsX5_callOf) := goodIn_app (goodIn_of _ (by decide +kernel)) ggL_law_X5_callOf
set_option maxRecDepth 20000 in
theorem ggL_law_L_way : GoodIn wsL_law wsL_way := goodIn_ca (goodIn_ca (goodIn_r _ [605, 284, 606, 607, 608, 2, 609, 29, 414, 415, 416, 417, 249, 250, 418, 419, 420, 28, 421, 359, 422, 423, 424, 425, 112, 113, 426, 427, 428, 429, 71, 66, 610, 611, 612, 613, 69, 70, 836, 837, 838, 839, 840, 841, 842, 843, 844, 845, 846, 847, 893, 894, 895, 896, 897, 898, 899, 900, 901] (by decide +kernel) (by decide +kernel)) (goodIn_sub (fun _ h => List.mem_append_right _ h) (by decide +kernel))) (goodIn_sub (fun _ h => List.mem_append_left _ (List.mem_append_left _ (List.mem_append_right _ h))) (by decide +kernel))
set_option maxRecDepth 20000 in
theorem gL_law_L_way : GoodIn wsL_law (va_wsS RL 173 yL_way wsL_way) := goodIn_app (goodIn_of _ (by decide +kernel)) ggL_law_L_way
set_option maxRecDepth 20000 in
theorem ggL_law_X5_way : GoodIn wsL_law wsX5_way := goodIn_r _ [617, 90, 151, 86, 476, 477, 478, 5, 479, 386, 158, 159, 160, 848, 849, 850, 851, 852, 853, 854, 855, 856, 857, 858, 859, 860, 861, 862, 863, 864, 865, 866, 867, 868, 869, 870, 871, 872, 873, 874, 875, 876, 877] (by decide +kernel) (by decide +kernel)
set_option maxRecDepth 20000 in
theorem gL_law_X5_way : GoodIn wsL_law (wsV RL 175 RX5 yX5_way wsX5_way) := goodIn_app (goodIn_of _ (by decide +kernel)) ggL_law_X5_way
set_option maxRecDepth 20000 in
theorem ggL_law_X4_busy : GoodIn wsL_law wsX4_busy := goodIn_r _ [621, 347, 836, 837, 838, 839, 840, 841, 842, 843, 844, 845, 846, 847] (by decide +kernel) (by decide +kernel)
set_option maxRecDepth 20000 in
theorem gL_law_X4_busy : GoodIn wsL_law (wsV RL 176 RX4 yX4_busy wsX4_busy) := goodIn_app (goodIn_of _ (by decide +kernel)) ggL_law_X4_busy
set_option maxRecDepth 20000 in
theorem ggL_law_X5_busy : GoodIn wsL_law wsX5_busy := goodIn_r _ [625, 151, 387, 848, 849, 850, 851, 852, 853, 854, 855, 856, 857, 858, 859, 860, 861, 862, 863, 864, 865, 866, 867, 868, 869, 870, 871, 872, 873, 874, 875, 876, 877] (by decide +kernel) (by decide +kernel)
set_option maxRecDepth 20000 in
theorem gL_law_X5_busy : GoodIn wsL_law (wsV RL 179 RX5 yX5_busy wsX5_busy) := goodIn_app (goodIn_of _ (by decide +kernel)) ggL_law_X5_busy
set_option maxRecDepth 20000 in
theorem ggL_law_L_cut : GoodIn wsL_law wsL_cut := goodIn_ca (goodIn_ca (goodIn_r _ [628, 107, 629, 630, 631, 2, 632, 112, 113, 29, 633, 634, 635, 118, 119, 636, 637, 638, 639, 380, 381, 640, 641, 642, 28, 643, 72, 644, 645, 646, 647, 25, 648, 430, 431, 432, 433, 68, 580, 581, 582, 583, 71, 66, 69, 70, 372, 373, 374, 375, 649, 650, 651, 24, 652, 53, 54, 653, 654, 655, 656, 836, 837, 838, 839, 840, 841, 842, 843, 844, 845, 846, 847, 893, 894, 895, 896, 897, 898, 899, 900, 901, 884, 885, 886, 887, 888, 889, 890, 891, 892] (by decide +kernel) (by decide +kernel)) (goodIn_sub (fun _ h => List.mem_append_left _ (List.mem_append_left _ (List.mem_append_right _ h))) (by decide +kernel))) (goodIn_sub (fun _ h => List.mem_append_left _ (List.mem_append_right _ h)) (by decide +kernel))
set_option maxRecDepth 20000 in
theorem gL_law_L_cut : GoodIn wsL_law (va_wsS RL 180 yL_cut wsL_cut) := goodIn_app (goodIn_of _ (by decide +kernel)) ggL_law_L_cut
set_option maxRecDepth 20000 in
theorem ggL_law_X5_cut : GoodIn wsL_law wsX5_cut := goodIn_r _ [660, 86, 151, 91, 92, 96, 661, 662, 663, 5, 664, 155, 156, 157, 158, 159, 160, 404, 405, 406, 588, 589, 590, 591, 90, 848, 849, 850, 851, 852, 853, 854, 855, 856, 857, 858, 859, 860, 861, 862, 863, 864, 865, 866, 867, 868, 869, 870, 871, 872, 873, 874, 875, 876, 877] (by decide +kernel) (by decide +kernel)
set_option maxRecDepth 20000 in
theorem gL_law_X5_cut : GoodIn wsL_law (wsV RL 182 RX5 yX5_cut wsX5_cut) := goodIn_app (goodIn_of _ (by decide +kernel)) ggL_law_X5_cut
set_option maxRecDepth 20000 in
theorem ggL_law_L_mend : GoodIn wsL_law wsL_mend := goodIn_ca (goodIn_ca (goodIn_r _ [667, 107, 668, 669, 670, 2, 671, 112, 113, 29, 633, 634, 635, 118, 119, 636, 637, 638, 639, 380, 381, 640, 641, 642, 28, 643, 72, 653, 654, 655, 656, 836, 837, 838, 839, 840, 841, 842, 843, 844, 845, 846, 847, 893, 894, 895, 896, 897, 898, 899, 900, 901] (by decide +kernel) (by decide +kernel)) (goodIn_sub (fun _ h => List.mem_append_left _ (List.mem_append_left _ (List.mem_append_right _ h))) (by decide +kernel))) (goodIn_sub (fun _ h => List.mem_append_left _ (List.mem_append_right _ h)) (by decide +kernel))
set_option maxRecDepth 20000 in
theorem gL_law_L_mend : GoodIn wsL_law (va_wsS RL 183 yL_mend wsL_mend) := goodIn_app (goodIn_of _ (by decide +kernel)) ggL_law_L_mend
set_option maxRecDepth 20000 in
theorem ggL_law_X5_mend : GoodIn wsL_law wsX5_mend := goodIn_r _ [675, 86, 151, 662, 663, 5, 664, 155, 156, 157, 158, 159, 160, 404, 405, 406, 848, 849, 850, 851, 852, 853, 854, 855, 856, 857, 858, 859, 860, 861, 862, 863, 864, 865, 866, 867, 868, 869, 870, 871, 872, 873, 874, 875, 876, 877] (by decide +kernel) (by decide +kernel)
set_option maxRecDepth 20000 in
theorem gL_law_X5_mend : GoodIn wsL_law (wsV RL 186 RX5 yX5_mend wsX5_mend) := goodIn_app (goodIn_of _ (by decide +kernel)) ggL_law_X5_mend
set_option maxRecDepth 20000 in
theorem ggL_law_L_trunk : GoodIn wsL_law wsL_trunk := goodIn_ca (goodIn_r _ [678, 107, 679, 680, 681, 2, 682, 29, 633, 634, 635, 118, 119, 636, 637, 638, 639, 380, 381, 640, 641, 642, 28, 643, 72, 836, 837, 838, 839, 840, 841, 842, 843, 844, 845, 846, 847, 893, 894, 895, 896, 897, 898, 899, 900, 901] (by decide +kernel) (by decide +kernel)) (goodIn_sub (fun _ h => List.mem_append_left _ (List.mem_append_right _ h)) (by decide +kernel))
set_option maxRecDepth 20000 in
theorem gL_law_L_trunk : GoodIn wsL_law (va_wsS RL 187 yL_trunk wsL_trunk) := goodIn_app (goodIn_of _ (by decide +kernel)) ggL_law_L_trunk
set_option maxRecDepth 20000 in
theorem ggL_law_X5_trunk : GoodIn wsL_law wsX5_trunk := goodIn_r _ [686, 151, 86, 662, 663, 5, 664, 155, 156, 157, 158, 159, 160, 404, 405, 406, 848, 849, 850, 851, 852, 853, 854, 855, 856, 857, 858, 859, 860, 861, 862, 863, 864, 865, 866, 867, 868, 869, 870, 871, 872, 873, 874, 875, 876, 877] (by decide +kernel) (by decide +kernel)
set_option maxRecDepth 20000 in
theorem gL_law_X5_trunk : GoodIn wsL_law (wsV RL 189 RX5 yX5_trunk wsX5_trunk) := goodIn_app (goodIn_of _ (by decide +kernel)) ggL_law_X5_trunk
set_option maxRecDepth 20000 in
theorem ggL_law_L_setLines : GoodIn wsL_law wsL_setLines := goodIn_ca (goodIn_ca (goodIn_r _ [689, 107, 690, 691, 692, 2, 693, 118, 119, 112, 113, 29, 200, 201, 202, 120, 121, 122, 694, 365, 366, 28, 367, 71, 67, 695, 696, 697, 698, 73, 836, 837, 838, 839, 840, 841, 842, 843, 844, 845, 846, 847, 893, 894, 895, 896, 897, 898, 899, 900, 901] (by decide +kernel) (by decide +kernel)) (goodIn_sub (fun _ h => List.mem_append_left _ (List.mem_append_right _ h)) (by decide +kernel))) (goodIn_sub (fun _ h => List.mem_append_left _ (List.mem_append_left _ (List.mem_append_right _ h))) (by decide +kernel))
set_option maxRecDepth 20000 in
theorem gL_law_L_setLines : GoodIn wsL_law (va_wsS RL 190 yL_setLines wsL_setLines) := goodIn_app (goodIn_of _ (by decide +kernel)) ggL_law_L_setLines
set_option maxRecDepth 20000 in
theorem ggL_law_X5_setLines : GoodIn wsL_law wsX5_setLines := goodIn_r _ [702, 151, 87, 155, 156, 5, 157, 158, 159, 160, 392, 393, 394, 395, 386, 90, 89, 848, 849, 850, 851, 852, 853, 854, 855, 856, 857, 858, 859, 860, 861, 862, 863, 864, 865, 866, 867, 868, 869, 870, 871, 872, 873, 874, 875, 876, 877] (by decide +kernel) (by decide +kernel)
set_option maxRecDepth 20000 in
theorem gL_law_X5_setLines : GoodIn wsL_law (wsV RL 192 RX5 yX5_setLines wsX5_setLines) := goodIn_app (goodIn_of _ (by decide +kernel)) ggL_law_X5_setLines
set_option maxRecDepth 20000 in
theorem ggL_law_L_pass : GoodIn wsL_law wsL_pass := goodIn_ca (goodIn_ca (goodIn_r _ [705, 107, 706, 707, 708, 2, 709, 118, 119, 112, 113, 648, 25, 710, 711, 712, 24, 713, 438, 53, 54, 714, 562, 563, 564, 55, 57, 565, 566, 567, 568, 56, 836, 837, 838, 839, 840, 841, 842, 843, 844, 845, 846, 847, 884, 885, 886, 887, 888, 889, 890, 891, 892] (by decide +kernel) (by decide +kernel)) (goodIn_sub (fun _ h => List.mem_append_left _ (List.mem_append_right _ h)) (by decide +kernel))) (goodIn_sub (fun _ h => List.mem_append_left _ (List.mem_append_left _ (List.mem_append_right _ h))) (by decide +kernel))
set_option maxRecDepth 20000 in
theorem gL_law_L_pass : GoodIn wsL_law (va_wsS RL 193 yL_pass wsL_pass) := goodIn_app (goodIn_of _ (by decide +kernel)) ggL_law_L_pass
set_option maxRecDepth 20000 in
theorem ggL_law_X5_pass : GoodIn wsL_law wsX5_pass := goodIn_r _ [718, 661, 151, 475, 92, 96, 158, 159, 5, 160, 848, 849, 850, 851, 852, 853, 854, 855, 856, 857, 858, 859, 860, 861, 862, 863, 864, 865, 866, 867, 868, 869, 870, 871, 872, 873, 874, 875, 876, 877] (by decide +kernel) (by decide +kernel)
set_option maxRecDepth 20000 in
theorem gL_law_X5_pass : GoodIn wsL_law (wsV RL 195 RX5 yX5_pass wsX5_pass) := goodIn_app (goodIn_of _ (by decide +kernel)) ggL_law_X5_pass
set_option maxRecDepth 20000 in
theorem ggL_law_X4_bookings : GoodIn wsL_law wsX4_bookings := goodIn_r _ [722, 25, 518, 519, 520, 24, 521, 438, 836, 837, 838, 839, 840, 841, 842, 843, 844, 845, 846, 847, 884, 885, 886, 887, 888, 889, 890, 891, 892] (by decide +kernel) (by decide +kernel)
set_option maxRecDepth 20000 in
theorem gL_law_X4_bookings : GoodIn wsL_law (wsV RL 196 RX4 yX4_bookings wsX4_bookings) := goodIn_app (goodIn_of _ (by decide +kernel)) ggL_law_X4_bookings
set_option maxRecDepth 20000 in
theorem ggL_law_X5_bookings : GoodIn wsL_law wsX5_bookings := goodIn_r _ [726, 151, 475, 848, 849, 850, 851, 852, 853, 854, 855, 856, 857, 858, 859, 860, 861, 862, 863, 864, 865, 866, 867, 868, 869, 870, 871, 872, 873, 874, 875, 876, 877] (by decide +kernel) (by decide +kernel)
set_option maxRecDepth 20000 in
theorem gL_law_X5_bookings : GoodIn wsL_law (wsV RL 199 RX5 yX5_bookings wsX5_bookings) := goodIn_app (goodIn_of _ (by decide +kernel)) ggL_law_X5_bookings
set_option maxRecDepth 20000 in
theorem ggL_law_L_state : GoodIn wsL_law wsL_state := goodIn_ca (goodIn_r _ [729, 284, 730, 731, 732, 2, 733, 25, 514, 515, 516, 517, 249, 250, 518, 519, 520, 24, 521, 438, 526, 527, 528, 529, 53, 836, 837, 838, 839, 840, 841, 842, 843, 844, 845, 846, 847, 884, 885, 886, 887, 888, 889, 890, 891, 892] (by decide +kernel) (by decide +kernel)) (goodIn_sub (fun _ h => List.mem_append_right _ h) (by decide +kernel))
set_option maxRecDepth 20000 in
theorem gL_law_L_state : GoodIn wsL_law (va_wsS RL 200 yL_state wsL_state) := goodIn_app (goodIn_of _ (by decide +kernel)) ggL_law_L_state
set_option maxRecDepth 20000 in
theorem ggL_law_X5_state : GoodIn wsL_law wsX5_state := goodIn_r _ [737, 92, 738, 739, 740, 5, 741, 151, 546, 547, 548, 549, 475, 158, 159, 160, 848, 849, 850, 851, 852, 853, 854, 855, 856, 857, 858, 859, 860, 861, 862, 863, 864, 865, 866, 867, 868, 869, 870, 871, 872, 873, 874, 875, 876, 877] (by decide +kernel) (by decide +kernel)
set_option maxRecDepth 20000 in
theorem gL_law_X5_state : GoodIn wsL_law (wsV RL 202 RX5 yX5_state wsX5_state) := goodIn_app (goodIn_of _ (by decide +kernel)) ggL_law_X5_state
set_option maxRecDepth 20000 in
theorem ggL_law_L_wagons : GoodIn wsL_law wsL_wagons := goodIn_ca (goodIn_r _ [744, 284, 745, 746, 747, 2, 748, 25, 514, 515, 516, 517, 249, 250, 518, 519, 520, 24, 521, 438, 538, 539, 540, 541, 55, 836, 837, 838, 839, 840, 841, 842, 843, 844, 845, 846, 847, 884, 885, 886, 887, 888, 889, 890, 891, 892] (by decide +kernel) (by decide +kernel)) (goodIn_sub (fun _ h => List.mem_append_right _ h) (by decide +kernel))
set_option maxRecDepth 20000 in
theorem gL_law_L_wagons : GoodIn wsL_law (va_wsS RL 203 yL_wagons wsL_wagons) := goodIn_app (goodIn_of _ (by decide +kernel)) ggL_law_L_wagons
set_option maxRecDepth 20000 in
theorem ggL_law_X5_wagons : GoodIn wsL_law wsX5_wagons := goodIn_r _ [752, 97, 738, 739, 740, 5, 741, 151, 546, 547, 548, 549, 475, 158, 159, 160, 848, 849, 850, 851, 852, 853, 854, 855, 856, 857, 858, 859, 860, 861, 862, 863, 864, 865, 866, 867, 868, 869, 870, 871, 872, 873, 874, 875, 876, 877] (by decide +kernel) (by decide +kernel)
set_option maxRecDepth 20000 in
theorem gL_law_X5_wagons : GoodIn wsL_law (wsV RL 205 RX5 yX5_wagons wsX5_wagons) := goodIn_app (goodIn_of _ (by decide +kernel)) ggL_law_X5_wagons
set_option maxRecDepth 20000 in
theorem ggL_law_L_wagonOf : GoodIn wsL_law wsL_wagonOf := goodIn_ca (goodIn_r _ [755, 284, 756, 757, 758, 2, 759, 249, 250, 25, 514, 515, 516, 517, 518, 519, 520, 24, 521, 438, 538, 539, 540, 541, 55, 760, 566, 567, 568, 56, 836, 837, 838, 839, 840, 841, 842, 843, 844, 845, 846, 847, 884, 885, 886, 887, 888, 889, 890, 891, 892] (by decide +kernel) (by decide +kernel)) (goodIn_sub (fun _ h => List.mem_append_right _ h) (by decide +kernel))
set_option maxRecDepth 20000 in
theorem gL_law_L_wagonOf : GoodIn wsL_law (va_wsS RL 206 yL_wagonOf wsL_wagonOf) := goodIn_app (goodIn_of _ (by decide +kernel)) ggL_law_L_wagonOf
set_option maxRecDepth 20000 in
theorem ggL_law_X5_wagonOf : GoodIn wsL_law wsX5_wagonOf := goodIn_r _ [764, 97, 151, 98, 546, 547, 548, 5, 549, 475, 158, 159, 160, 848, 849, 850, 851, 852, 853, 854, 855, 856, 857, 858, 859, 860, 861, 862, 863, 864, 865, 866, 867, 868, 869, 870, 871, 872, 873, 874, 875, 876, 877] (by decide +kernel) (by decide +kernel)
set_option maxRecDepth 20000 in
theorem gL_law_X5_wagonOf : GoodIn wsL_law (wsV RL 208 RX5 yX5_wagonOf wsX5_wagonOf) := goodIn_app (goodIn_of _ (by decide +kernel)) ggL_law_X5_wagonOf
set_option maxRecDepth 20000 in
theorem ggL_law_L_lapses : GoodIn wsL_law wsL_lapses := goodIn_ca (goodIn_ca (goodIn_r _ [767, 284, 768, 769, 770, 2, 771, 112, 113, 25, 648, 514, 515, 516, 517, 249, 250, 518, 519, 520, 24, 521, 438, 526, 527, 528, 529, 53, 772, 773, 774, 775, 54, 836, 837, 838, 839, 840, 841, 842, 843, 844, 845, 846, 847, 884, 885, 886, 887, 888, 889, 890, 891, 892] (by decide +kernel) (by decide +kernel)) (goodIn_sub (fun _ h => List.mem_append_left _ (List.mem_append_left _ (List.mem_append_right _ h))) (by decide +kernel))) (goodIn_sub (fun _ h => List.mem_append_right _ h) (by decide +kernel))
set_option maxRecDepth 20000 in
theorem gL_law_L_lapses : GoodIn wsL_law (va_wsS RL 209 yL_lapses wsL_lapses) := goodIn_app (goodIn_of _ (by decide +kernel)) ggL_law_L_lapses
set_option maxRecDepth 20000 in
theorem ggL_law_X5_lapses : GoodIn wsL_law wsX5_lapses := goodIn_r _ [779, 92, 151, 96, 661, 546, 547, 548, 5, 549, 475, 158, 159, 160, 848, 849, 850, 851, 852, 853, 854, 855, 856, 857, 858, 859, 860, 861, 862, 863, 864, 865, 866, 867, 868, 869, 870, 871, 872, 873, 874, 875, 876, 877] (by decide +kernel) (by decide +kernel)
set_option maxRecDepth 20000 in
theorem gL_law_X5_lapses : GoodIn wsL_law (wsV RL 211 RX5 yX5_lapses wsX5_lapses) := goodIn_app (goodIn_of _ (by decide +kernel)) ggL_law_X5_lapses
set_option maxRecDepth 20000 in
theorem ggL_law_L_depart : GoodIn wsL_law wsL_depart := goodIn_ca (goodIn_ca (goodIn_r _ [782, 107, 783, 784, 785, 2, 786, 118, 119, 112, 113, 787, 34, 16, 115, 116, 117, 120, 121, 122, 123, 124, 125, 200, 201, 202, 126, 127, 128, 788, 789, 790, 791, 25, 176, 177, 178, 15, 179, 38, 203, 204, 205, 206, 39, 328, 329, 330, 24, 331, 57, 526, 527, 528, 529, 53, 792, 793, 794, 795, 538, 539, 540, 541, 55, 796, 797, 798, 799, 31, 439, 440, 441, 442, 52, 499, 500, 501, 502, 180, 181, 182, 183, 21, 184, 185, 186, 187, 188, 142, 143, 20, 144, 145, 43, 44, 45, 836, 837, 838, 839, 840, 841, 842, 843, 844, 845, 846, 847, 878, 879, 884, 885, 886, 887, 888, 889, 890, 891, 892, 880, 881, 882, 883] (by decide +kernel) (by decide +kernel)) (goodIn_sub (fun _ h => List.mem_append_left _ (List.mem_append_right _ h)) (by decide +kernel))) (goodIn_sub (fun _ h => List.mem_append_left _ (List.mem_append_left _ (List.mem_append_right _ h))) (by decide +kernel))
set_option maxRecDepth 20000 in
theorem gL_law_L_depart : GoodIn wsL_law (va_wsS RL 212 yL_depart wsL_depart) := goodIn_app (goodIn_of _ (by decide +kernel)) ggL_law_L_depart
set_option maxRecDepth 20000 in
theorem ggL_law_X5_depart : GoodIn wsL_law wsX5_depart := goodIn_r _ [803, 151, 83, 84, 102, 804, 80, 81, 93, 82, 92, 101, 99, 152, 153, 5, 154, 155, 156, 157, 158, 159, 160, 805, 806, 807, 808, 809, 810, 811, 812, 97, 98, 848, 849, 850, 851, 852, 853, 854, 855, 856, 857, 858, 859, 860, 861, 862, 863, 864, 865, 866, 867, 868, 869, 870, 871, 872, 873, 874, 875, 876, 877] (by decide +kernel) (by decide +kernel)
set_option maxRecDepth 20000 in
theorem gL_law_X5_depart : GoodIn wsL_law (wsV RL 214 RX5 yX5_depart wsX5_depart) := goodIn_app (goodIn_of _ (by decide +kernel)) ggL_law_X5_depart
set_option maxRecDepth 20000 in
theorem ggL_law_L_arrive : GoodIn wsL_law wsL_arrive := goodIn_ca (goodIn_ca (goodIn_ca (goodIn_r _ [815, 284, 816, 817, 818, 2, 819, 249, 250, 118, 119, 112, 113, 787, 34, 16, 123, 124, 125, 126, 127, 128, 176, 177, 178, 15, 179, 38, 129, 130, 131, 132, 820, 821, 822, 823, 25, 203, 204, 205, 206, 39, 328, 329, 330, 24, 331, 57, 561, 562, 563, 564, 53, 55, 565, 566, 567, 568, 56, 180, 181, 182, 183, 21, 184, 185, 186, 187, 188, 142, 143, 20, 144, 145, 43, 44, 45, 836, 837, 838, 839, 840, 841, 842, 843, 844, 845, 846, 847, 878, 879, 884, 885, 886, 887, 888, 889, 890, 891, 892, 880, 881, 882, 883] (by decide +kernel) (by decide +kernel)) (goodIn_sub (fun _ h => List.mem_append_right _ h) (by decide +kernel))) (goodIn_sub (fun _ h => List.mem_append_left _ (List.mem_append_right _ h)) (by decide +kernel))) (goodIn_sub (fun _ h => List.mem_append_left _ (List.mem_append_left _ (List.mem_append_right _ h))) (by decide +kernel))
set_option maxRecDepth 20000 in
theorem gL_law_L_arrive : GoodIn wsL_law (va_wsS RL 215 yL_arrive wsL_arrive) := goodIn_app (goodIn_of _ (by decide +kernel)) ggL_law_L_arrive
set_option maxRecDepth 20000 in
theorem ggL_law_X5_arrive : GoodIn wsL_law wsX5_arrive := goodIn_r _ [827, 804, 151, 100, 83, 99, 101, 102, 92, 82, 158, 159, 5, 160, 161, 162, 163, 164, 84, 80, 848, 849, 850, 851, 852, 853, 854, 855, 856, 857, 858, 859, 860, 861, 862, 863, 864, 865, 866, 867, 868, 869, 870, 871, 872, 873, 874, 875, 876, 877] (by decide +kernel) (by decide +kernel)
set_option maxRecDepth 20000 in
theorem gL_law_X5_arrive : GoodIn wsL_law (wsV RL 217 RX5 yX5_arrive wsX5_arrive) := goodIn_app (goodIn_of _ (by decide +kernel)) ggL_law_X5_arrive
set_option maxRecDepth 20000 in
theorem ggL_law_X4_trains : GoodIn wsL_law wsX4_trains := goodIn_r _ [831, 787, 836, 837, 838, 839, 840, 841, 842, 843, 844, 845, 846, 847] (by decide +kernel) (by decide +kernel)
set_option maxRecDepth 20000 in
theorem gL_law_X4_trains : GoodIn wsL_law (wsV RL 218 RX4 yX4_trains wsX4_trains) := goodIn_app (goodIn_of _ (by decide +kernel)) ggL_law_X4_trains
set_option maxRecDepth 20000 in
theorem ggL_law_X5_trains : GoodIn wsL_law wsX5_trains := goodIn_r _ [835, 151, 804, 848, 849, 850, 851, 852, 853, 854, 855, 856, 857, 858, 859, 860, 861, 862, 863, 864, 865, 866, 867, 868, 869, 870, 871, 872, 873, 874, 875, 876, 877] (by decide +kernel) (by decide +kernel)
set_option maxRecDepth 20000 in
theorem gL_law_X5_trains : GoodIn wsL_law (wsV RL 221 RX5 yX5_trains wsX5_trains) := goodIn_app (goodIn_of _ (by decide +kernel)) ggL_law_X5_trains
abbrev vwCl : List vw_C := [(RX0, TX0, 4), (RX1, TX1, 9), (RX2, TX2, 2), (RX3, TX3, 9), (RX4, TX4, 12), (RX5, TX5, 30)]
/-! ===== END printed: names ===== -/
