set_option maxRecDepth 20000 in
theorem ggX4_init_X2_init : GoodIn wsX4_init wsX2_init := goodIn_r _ [27, 28, 2, 3, 21, 29, 30, 67, 68] (by decide +kernel) (by decide +kernel)
set_option maxRecDepth 20000 in
theorem gX4_init_X2_init_n11 : GoodIn wsX4_init (wsX2_init) := ggX4_init_X2_init
set_option maxRecDepth 20000 in
theorem ggX4_init_X0_init : GoodIn wsX4_init wsX0_init := goodIn_r _ [32, 33, 2, 3, 21, 34, 35, 36, 81, 82, 83, 84] (by decide +kernel) (by decide +kernel)
set_option maxRecDepth 20000 in
theorem gX4_init_X0_init_n21 : GoodIn wsX4_init (wsX0_init) := ggX4_init_X0_init
set_option maxRecDepth 20000 in
theorem ggX4_init_X1_init : GoodIn wsX4_init wsX1_init := goodIn_r _ [39, 40, 2, 3, 21, 41, 42, 43, 44, 45, 46, 47, 48, 49, 50, 51, 52, 85, 86, 87, 88, 89, 90, 91, 92, 93] (by decide +kernel) (by decide +kernel)
set_option maxRecDepth 20000 in
theorem gX4_init_X1_init : GoodIn wsX4_init (wsX1_init) := ggX4_init_X1_init
set_option maxRecDepth 20000 in
theorem ggX4_init_X3_init : GoodIn wsX4_init wsX3_init := goodIn_r _ [55, 56, 2, 3, 21, 57, 58, 59, 60, 61, 62, 63, 64, 65, 50, 51, 52, 94, 95, 96, 97, 98, 99, 100, 101, 102] (by decide +kernel) (by decide +kernel)
set_option maxRecDepth 20000 in
theorem gX4_init_X3_init : GoodIn wsX4_init (wsX3_init) := ggX4_init_X3_init
set_option maxRecDepth 20000 in
theorem ggX4_init_J7_fill_53178 : GoodIn wsX4_init wsJ7_fill_53178 := goodIn_r _ [52] (by decide +kernel) (by decide +kernel)
set_option maxRecDepth 20000 in
theorem gX4_init_J7_fill_53178 : GoodIn wsX4_init (va_wsS RX4 44 yJ7_fill_53178 wsJ7_fill_53178) := goodIn_app (goodIn_of _ (by decide +kernel)) ggX4_init_J7_fill_53178
set_option maxRecDepth 20000 in
theorem ggX4_wagon_X4_requireTrack : GoodIn wsX4_wagon wsX4_requireTrack := goodIn_ca (goodIn_r _ [9, 10, 11, 12, 13, 8, 14, 15, 16, 17] (by decide +kernel) (by decide +kernel)) (goodIn_sub (fun _ h => List.mem_cons_of_mem _ (List.mem_append_right _ h)) (by decide +kernel))
set_option maxRecDepth 20000 in
theorem gX4_wagon_X4_requireTrack : GoodIn wsX4_wagon (va_wsS RX4 57 yX4_requireTrack wsX4_requireTrack) := goodIn_app (goodIn_of _ (by decide +kernel)) ggX4_wagon_X4_requireTrack
set_option maxRecDepth 20000 in
theorem ggX4_wagon_X4_rowOf : GoodIn wsX4_wagon wsX4_rowOf := goodIn_r _ [20] (by decide +kernel) (by decide +kernel)
set_option maxRecDepth 20000 in
theorem gX4_wagon_X4_rowOf : GoodIn wsX4_wagon (va_wsS RX4 61 yX4_rowOf wsX4_rowOf) := goodIn_app (goodIn_of _ (by decide +kernel)) ggX4_wagon_X4_rowOf
set_option maxRecDepth 20000 in
theorem ggX4_wagon_X2_hasRoom : GoodIn wsX4_wagon wsX2_hasRoom := goodIn_r _ [25, 26, 57, 58] (by decide +kernel) (by decide +kernel)
set_option maxRecDepth 20000 in
theorem gX4_wagon_X2_hasRoom : GoodIn wsX4_wagon (wsV RX4 69 RX2 yX2_hasRoom wsX2_hasRoom) := goodIn_app (goodIn_of _ (by decide +kernel)) ggX4_wagon_X2_hasRoom
set_option maxRecDepth 20000 in
theorem ggX4_wagon_X2_put : GoodIn wsX4_wagon wsX2_put := goodIn_r _ [30, 31, 26, 57, 58] (by decide +kernel) (by decide +kernel)
set_option maxRecDepth 20000 in
theorem gX4_wagon_X2_put : GoodIn wsX4_wagon (wsV RX4 80 RX2 yX2_put wsX2_put) := goodIn_app (goodIn_of _ (by decide +kernel)) ggX4_wagon_X2_put
set_option maxRecDepth 20000 in
theorem ggX4_wagon_X0_notePlacing : GoodIn wsX4_wagon wsX0_notePlacing := goodIn_r _ [36, 37, 38, 39, 35, 40, 41, 42, 43, 44, 59, 60, 61, 62] (by decide +kernel) (by decide +kernel)
set_option maxRecDepth 20000 in
theorem gX4_wagon_X0_notePlacing : GoodIn wsX4_wagon (wsV RX4 83 RX0 yX0_notePlacing wsX0_notePlacing) := goodIn_app (goodIn_of _ (by decide +kernel)) ggX4_wagon_X0_notePlacing
set_option maxRecDepth 20000 in
theorem ggX4_shunt_X4_requireTrack : GoodIn wsX4_shunt wsX4_requireTrack := goodIn_ca (goodIn_r _ [9, 1, 2, 10, 11, 8, 12, 13, 14, 15] (by decide +kernel) (by decide +kernel)) (goodIn_sub (fun _ h => List.mem_cons_of_mem _ (List.mem_append_left _ (List.mem_append_right _ h))) (by decide +kernel))
set_option maxRecDepth 20000 in
theorem gX4_shunt_X4_requireTrack : GoodIn wsX4_shunt (va_wsS RX4 57 yX4_requireTrack wsX4_requireTrack) := goodIn_app (goodIn_of _ (by decide +kernel)) ggX4_shunt_X4_requireTrack
set_option maxRecDepth 20000 in
theorem ggX4_shunt_X4_rowOf : GoodIn wsX4_shunt wsX4_rowOf := goodIn_r _ [18] (by decide +kernel) (by decide +kernel)
set_option maxRecDepth 20000 in
theorem gX4_shunt_X4_rowOf : GoodIn wsX4_shunt (va_wsS RX4 61 yX4_rowOf wsX4_rowOf) := goodIn_app (goodIn_of _ (by decide +kernel)) ggX4_shunt_X4_rowOf
set_option maxRecDepth 20000 in
theorem ggX4_shunt_X2_count : GoodIn wsX4_shunt wsX2_count := goodIn_r _ [23, 24, 60, 61] (by decide +kernel) (by decide +kernel)
set_option maxRecDepth 20000 in
theorem gX4_shunt_X2_count : GoodIn wsX4_shunt (wsV RX4 91 RX2 yX2_count wsX2_count) := goodIn_app (goodIn_of _ (by decide +kernel)) ggX4_shunt_X2_count
set_option maxRecDepth 20000 in
theorem ggX4_shunt_X2_hasRoom : GoodIn wsX4_shunt wsX2_hasRoom := goodIn_r _ [28, 24, 60, 61] (by decide +kernel) (by decide +kernel)
set_option maxRecDepth 20000 in
theorem gX4_shunt_X2_hasRoom : GoodIn wsX4_shunt (wsV RX4 69 RX2 yX2_hasRoom wsX2_hasRoom) := goodIn_app (goodIn_of _ (by decide +kernel)) ggX4_shunt_X2_hasRoom
set_option maxRecDepth 20000 in
theorem ggX4_shunt_X4_moveLast : GoodIn wsX4_shunt wsX4_moveLast := goodIn_r _ [32, 5, 33, 34, 35, 36, 22, 37, 24, 38, 39, 40, 41, 42, 43, 44, 45, 46, 47, 48, 49, 50, 51, 52, 53, 54, 55, 56, 57, 58, 59, 60, 61, 62, 63, 64, 65] (by decide +kernel) (by decide +kernel)
set_option maxRecDepth 20000 in
theorem gX4_shunt_X4_moveLast : GoodIn wsX4_shunt (wsV RX4 97 RX4 yX4_moveLast wsX4_moveLast) := goodIn_app (goodIn_of _ (by decide +kernel)) ggX4_shunt_X4_moveLast
set_option maxRecDepth 20000 in
theorem ggX4_wash_X4_requireYard : GoodIn wsX4_wash wsX4_requireYard := goodIn_ca (goodIn_r _ [8, 9, 10, 11, 12, 7, 13] (by decide +kernel) (by decide +kernel)) (goodIn_sub (fun _ h => List.mem_cons_of_mem _ (List.mem_append_right _ h)) (by decide +kernel))
set_option maxRecDepth 20000 in
theorem gX4_wash_X4_requireYard : GoodIn wsX4_wash (va_wsS RX4 101 yX4_requireYard wsX4_requireYard) := goodIn_app (goodIn_of _ (by decide +kernel)) ggX4_wash_X4_requireYard
set_option maxRecDepth 20000 in
theorem ggX4_wash_X4_rowOf : GoodIn wsX4_wash wsX4_rowOf := goodIn_r _ [16] (by decide +kernel) (by decide +kernel)
set_option maxRecDepth 20000 in
theorem gX4_wash_X4_rowOf : GoodIn wsX4_wash (va_wsS RX4 61 yX4_rowOf wsX4_rowOf) := goodIn_app (goodIn_of _ (by decide +kernel)) ggX4_wash_X4_rowOf
set_option maxRecDepth 20000 in
theorem ggX4_wash_X2_count : GoodIn wsX4_wash wsX2_count := goodIn_r _ [21, 22, 40, 41] (by decide +kernel) (by decide +kernel)
set_option maxRecDepth 20000 in
theorem gX4_wash_X2_count : GoodIn wsX4_wash (wsV RX4 91 RX2 yX2_count wsX2_count) := goodIn_app (goodIn_of _ (by decide +kernel)) ggX4_wash_X2_count
set_option maxRecDepth 20000 in
theorem ggX4_wash_X2_get : GoodIn wsX4_wash wsX2_get := goodIn_r _ [26, 27, 40, 41] (by decide +kernel) (by decide +kernel)
set_option maxRecDepth 20000 in
theorem gX4_wash_X2_get : GoodIn wsX4_wash (wsV RX4 107 RX2 yX2_get wsX2_get) := goodIn_app (goodIn_of _ (by decide +kernel)) ggX4_wash_X2_get
set_option maxRecDepth 20000 in
theorem ggX4_follow_X4_isGrain : GoodIn wsX4_follow wsX4_isGrain := goodIn_r _ [7] (by decide +kernel) (by decide +kernel)
set_option maxRecDepth 20000 in
theorem gX4_follow_X4_isGrain : GoodIn wsX4_follow (va_wsS RX4 110 yX4_isGrain wsX4_isGrain) := goodIn_app (goodIn_of _ (by decide +kernel)) ggX4_follow_X4_isGrain
set_option maxRecDepth 20000 in
theorem ggX4_on_X4_requireTrack : GoodIn wsX4_on wsX4_requireTrack := goodIn_ca (goodIn_r _ [5, 6, 7, 8, 9, 4, 10, 11, 12, 13] (by decide +kernel) (by decide +kernel)) (goodIn_sub (fun _ h => List.mem_cons_of_mem _ (List.mem_append_right _ h)) (by decide +kernel))
set_option maxRecDepth 20000 in
theorem gX4_on_X4_requireTrack : GoodIn wsX4_on (va_wsS RX4 57 yX4_requireTrack wsX4_requireTrack) := goodIn_app (goodIn_of _ (by decide +kernel)) ggX4_on_X4_requireTrack
set_option maxRecDepth 20000 in
theorem ggX4_on_X4_rowOf : GoodIn wsX4_on wsX4_rowOf := goodIn_r _ [16] (by decide +kernel) (by decide +kernel)
set_option maxRecDepth 20000 in
theorem gX4_on_X4_rowOf : GoodIn wsX4_on (va_wsS RX4 61 yX4_rowOf wsX4_rowOf) := goodIn_app (goodIn_of _ (by decide +kernel)) ggX4_on_X4_rowOf
set_option maxRecDepth 20000 in
theorem ggX4_on_X2_count : GoodIn wsX4_on wsX2_count := goodIn_r _ [21, 22, 35, 36] (by decide +kernel) (by decide +kernel)
set_option maxRecDepth 20000 in
theorem gX4_on_X2_count : GoodIn wsX4_on (wsV RX4 91 RX2 yX2_count wsX2_count) := goodIn_app (goodIn_of _ (by decide +kernel)) ggX4_on_X2_count
set_option maxRecDepth 20000 in
theorem ggX4_at_X4_requireTrack : GoodIn wsX4_at wsX4_requireTrack := goodIn_ca (goodIn_r _ [5, 6, 7, 8, 9, 4, 10, 11, 12, 13] (by decide +kernel) (by decide +kernel)) (goodIn_sub (fun _ h => List.mem_cons_of_mem _ (List.mem_append_left _ (List.mem_append_right _ h))) (by decide +kernel))
set_option maxRecDepth 20000 in
theorem gX4_at_X4_requireTrack : GoodIn wsX4_at (va_wsS RX4 57 yX4_requireTrack wsX4_requireTrack) := goodIn_app (goodIn_of _ (by decide +kernel)) ggX4_at_X4_requireTrack
set_option maxRecDepth 20000 in
theorem ggX4_at_X4_rowOf : GoodIn wsX4_at wsX4_rowOf := goodIn_r _ [16] (by decide +kernel) (by decide +kernel)
set_option maxRecDepth 20000 in
theorem gX4_at_X4_rowOf : GoodIn wsX4_at (va_wsS RX4 61 yX4_rowOf wsX4_rowOf) := goodIn_app (goodIn_of _ (by decide +kernel)) ggX4_at_X4_rowOf
set_option maxRecDepth 20000 in
theorem ggX4_at_X4_wagonIn : GoodIn wsX4_at wsX4_wagonIn := goodIn_ca (goodIn_r _ [19, 20, 21, 22, 23, 24, 25, 26, 27, 28, 29, 30, 31, 32, 45, 46] (by decide +kernel) (by decide +kernel)) (goodIn_sub (fun _ h => List.mem_cons_of_mem _ (List.mem_append_right _ h)) (by decide +kernel))
set_option maxRecDepth 20000 in
theorem gX4_at_X4_wagonIn : GoodIn wsX4_at (va_wsS RX4 116 yX4_wagonIn wsX4_wagonIn) := goodIn_app (goodIn_of _ (by decide +kernel)) ggX4_at_X4_wagonIn
set_option maxRecDepth 20000 in
theorem ggX4_atByReplay_X4_requireTrack : GoodIn wsX4_atByReplay wsX4_requireTrack := goodIn_ca (goodIn_r _ [6, 7, 8, 9, 10, 5, 11, 12, 13, 14] (by decide +kernel) (by decide +kernel)) (goodIn_sub (fun _ h => List.mem_cons_of_mem _ (List.mem_append_left _ (List.mem_append_right _ h))) (by decide +kernel))
set_option maxRecDepth 20000 in
theorem gX4_atByReplay_X4_requireTrack : GoodIn wsX4_atByReplay (va_wsS RX4 57 yX4_requireTrack wsX4_requireTrack) := goodIn_app (goodIn_of _ (by decide +kernel)) ggX4_atByReplay_X4_requireTrack
set_option maxRecDepth 20000 in
theorem ggX4_atByReplay_X0_replay : GoodIn wsX4_atByReplay wsX0_replay := goodIn_r _ [19, 20, 21, 22, 23, 24, 25, 26, 27, 28, 29, 30, 31, 32, 33, 34, 35, 36, 37, 38, 39, 40, 41, 42, 71, 72, 73, 74, 75, 76] (by decide +kernel) (by decide +kernel)
set_option maxRecDepth 20000 in
theorem gX4_atByReplay_X0_replay : GoodIn wsX4_atByReplay (wsV RX4 120 RX0 yX0_replay wsX0_replay) := goodIn_app (goodIn_of _ (by decide +kernel)) ggX4_atByReplay_X0_replay
set_option maxRecDepth 20000 in
theorem ggX4_atByReplay_X4_rowOf : GoodIn wsX4_atByReplay wsX4_rowOf := goodIn_r _ [45] (by decide +kernel) (by decide +kernel)
set_option maxRecDepth 20000 in
theorem gX4_atByReplay_X4_rowOf : GoodIn wsX4_atByReplay (va_wsS RX4 61 yX4_rowOf wsX4_rowOf) := goodIn_app (goodIn_of _ (by decide +kernel)) ggX4_atByReplay_X4_rowOf
set_option maxRecDepth 20000 in
theorem ggX4_atByReplay_X4_wagonIn : GoodIn wsX4_atByReplay wsX4_wagonIn := goodIn_ca (goodIn_r _ [48, 49, 50, 51, 52, 53, 27, 54, 29, 55, 56, 57, 58, 38, 75, 76] (by decide +kernel) (by decide +kernel)) (goodIn_sub (fun _ h => List.mem_cons_of_mem _ (List.mem_append_right _ h)) (by decide +kernel))
set_option maxRecDepth 20000 in
theorem gX4_atByReplay_X4_wagonIn : GoodIn wsX4_atByReplay (va_wsS RX4 116 yX4_wagonIn wsX4_wagonIn) := goodIn_app (goodIn_of _ (by decide +kernel)) ggX4_atByReplay_X4_wagonIn
set_option maxRecDepth 20000 in
theorem ggX4_where_X4_requireWagon : GoodIn wsX4_where wsX4_requireWagon := goodIn_ca (goodIn_r _ [6, 7, 8, 9, 21, 22, 23, 24, 25, 26, 27, 28, 29, 30, 31, 32] (by decide +kernel) (by decide +kernel)) (goodIn_sub (fun _ h => List.mem_cons_of_mem _ (List.mem_append_right _ h)) (by decide +kernel))
set_option maxRecDepth 20000 in
theorem gX4_where_X4_requireWagon : GoodIn wsX4_where (wsV RX4 124 RX4 yX4_requireWagon wsX4_requireWagon) := goodIn_app (goodIn_of _ (by decide +kernel)) ggX4_where_X4_requireWagon
set_option maxRecDepth 20000 in
theorem ggX4_where_X2_findOnTracks : GoodIn wsX4_where wsX2_findOnTracks := goodIn_r _ [14, 15, 16, 17, 18, 13, 19, 20, 33, 34] (by decide +kernel) (by decide +kernel)
set_option maxRecDepth 20000 in
theorem gX4_where_X2_findOnTracks : GoodIn wsX4_where (wsV RX4 127 RX2 yX2_findOnTracks wsX2_findOnTracks) := goodIn_app (goodIn_of _ (by decide +kernel)) ggX4_where_X2_findOnTracks
set_option maxRecDepth 20000 in
theorem ggX4_carried_X4_requireWagon : GoodIn wsX4_carried wsX4_requireWagon := goodIn_ca (goodIn_r _ [6, 7, 8, 9, 10, 11, 12, 13, 14, 15, 16, 17, 18, 19, 20, 21] (by decide +kernel) (by decide +kernel)) (goodIn_sub (fun _ h => List.mem_cons_of_mem _ (List.mem_append_right _ h)) (by decide +kernel))
set_option maxRecDepth 20000 in
theorem gX4_carried_X4_requireWagon : GoodIn wsX4_carried (wsV RX4 124 RX4 yX4_requireWagon wsX4_requireWagon) := goodIn_app (goodIn_of _ (by decide +kernel)) ggX4_carried_X4_requireWagon
set_option maxRecDepth 20000 in
theorem ggX4_promised_X4_requireWagon : GoodIn wsX4_promised wsX4_requireWagon := goodIn_ca (goodIn_r _ [6, 7, 8, 9, 16, 17, 18, 19, 20, 21, 22, 23, 24, 25, 26, 27] (by decide +kernel) (by decide +kernel)) (goodIn_sub (fun _ h => List.mem_cons_of_mem _ (List.mem_append_right _ h)) (by decide +kernel))
set_option maxRecDepth 20000 in
theorem gX4_promised_X4_requireWagon : GoodIn wsX4_promised (wsV RX4 124 RX4 yX4_requireWagon wsX4_requireWagon) := goodIn_app (goodIn_of _ (by decide +kernel)) ggX4_promised_X4_requireWagon
set_option maxRecDepth 20000 in
theorem ggX4_promised_X1_bookingFor : GoodIn wsX4_promised wsX1_bookingFor := goodIn_r _ [14, 15, 28, 29, 30, 31, 32, 33, 34, 35, 36] (by decide +kernel) (by decide +kernel)
set_option maxRecDepth 20000 in
theorem gX4_promised_X1_bookingFor : GoodIn wsX4_promised (wsV RX4 130 RX1 yX1_bookingFor wsX1_bookingFor) := goodIn_app (goodIn_of _ (by decide +kernel)) ggX4_promised_X1_bookingFor
set_option maxRecDepth 20000 in
theorem ggX4_call_X4_requireCustomer : GoodIn wsX4_call wsX4_requireCustomer := goodIn_ca (goodIn_r _ [8, 9, 10] (by decide +kernel) (by decide +kernel)) (goodIn_sub (fun _ h => List.mem_cons_of_mem _ (List.mem_append_right _ h)) (by decide +kernel))
set_option maxRecDepth 20000 in
theorem gX4_call_X4_requireCustomer : GoodIn wsX4_call (va_wsS RX4 133 yX4_requireCustomer wsX4_requireCustomer) := goodIn_app (goodIn_of _ (by decide +kernel)) ggX4_call_X4_requireCustomer
set_option maxRecDepth 20000 in
theorem ggX4_call_X4_requireYard : GoodIn wsX4_call wsX4_requireYard := goodIn_ca (goodIn_r _ [13, 9, 10, 14, 15, 7, 16] (by decide +kernel) (by decide +kernel)) (goodIn_sub (fun _ h => List.mem_cons_of_mem _ (List.mem_append_right _ h)) (by decide +kernel))
set_option maxRecDepth 20000 in
theorem gX4_call_X4_requireYard : GoodIn wsX4_call (va_wsS RX4 101 yX4_requireYard wsX4_requireYard) := goodIn_app (goodIn_of _ (by decide +kernel)) ggX4_call_X4_requireYard
set_option maxRecDepth 20000 in
theorem ggX4_call_X3_ongoing : GoodIn wsX4_call wsX3_ongoing := goodIn_r _ [21, 22, 69, 70, 71, 72, 73, 74, 75, 76, 77] (by decide +kernel) (by decide +kernel)
set_option maxRecDepth 20000 in
theorem gX4_call_X3_ongoing : GoodIn wsX4_call (wsV RX4 136 RX3 yX3_ongoing wsX3_ongoing) := goodIn_app (goodIn_of _ (by decide +kernel)) ggX4_call_X3_ongoing
set_option maxRecDepth 20000 in
theorem ggX4_call_X3_isFull : GoodIn wsX4_call wsX3_isFull := goodIn_r _ [26, 27, 69, 70, 71, 72, 73, 74, 75, 76, 77] (by decide +kernel) (by decide +kernel)
set_option maxRecDepth 20000 in
theorem gX4_call_X3_isFull : GoodIn wsX4_call (wsV RX4 139 RX3 yX3_isFull wsX3_isFull) := goodIn_app (goodIn_of _ (by decide +kernel)) ggX4_call_X3_isFull
set_option maxRecDepth 20000 in
theorem ggX4_call_X3_begin : GoodIn wsX4_call wsX3_begin := goodIn_r _ [31, 32, 33, 34, 35, 20, 36, 22, 37, 38, 39, 40, 41, 27, 42, 43, 44, 45, 46, 47, 48, 49, 50, 51, 52, 53, 54, 55, 7, 56, 69, 70, 71, 72, 73, 74, 75, 76, 77] (by decide +kernel) (by decide +kernel)
set_option maxRecDepth 20000 in
theorem gX4_call_X3_begin : GoodIn wsX4_call (wsV RX4 145 RX3 yX3_begin wsX3_begin) := goodIn_app (goodIn_of _ (by decide +kernel)) ggX4_call_X3_begin
set_option maxRecDepth 20000 in
theorem ggX4_ask_X4_requireCall : GoodIn wsX4_ask wsX4_requireCall := goodIn_ca (goodIn_r _ [11, 12, 13, 5, 14, 15, 16, 17, 18, 19, 105, 106, 107, 108, 109, 110, 111, 112, 113, 114, 115, 116, 117, 118, 119, 120, 121, 122, 123, 124, 125] (by decide +kernel) (by decide +kernel)) (goodIn_sub (fun _ h => List.mem_cons_of_mem _ (List.mem_append_right _ h)) (by decide +kernel))
set_option maxRecDepth 20000 in
theorem gX4_ask_X4_requireCall : GoodIn wsX4_ask (wsV RX4 151 RX4 yX4_requireCall wsX4_requireCall) := goodIn_app (goodIn_of _ (by decide +kernel)) ggX4_ask_X4_requireCall
set_option maxRecDepth 20000 in
theorem ggX4_ask_X4_isGrain : GoodIn wsX4_ask wsX4_isGrain := goodIn_r _ [22] (by decide +kernel) (by decide +kernel)
set_option maxRecDepth 20000 in
theorem gX4_ask_X4_isGrain : GoodIn wsX4_ask (va_wsS RX4 110 yX4_isGrain wsX4_isGrain) := goodIn_app (goodIn_of _ (by decide +kernel)) ggX4_ask_X4_isGrain
set_option maxRecDepth 20000 in
theorem ggX4_ask_X4_requireOngoing : GoodIn wsX4_ask wsX4_requireOngoing := goodIn_ca (goodIn_r _ [26, 3, 4, 5, 27, 28, 29, 17, 30, 31, 32, 105, 106, 107, 108, 109, 110, 111, 112, 113, 114, 115, 116, 117, 118, 119, 120, 121, 122, 123, 124, 125] (by decide +kernel) (by decide +kernel)) (goodIn_sub (fun _ h => List.mem_cons_of_mem _ (List.mem_append_left _ (List.mem_append_right _ h))) (by decide +kernel))
set_option maxRecDepth 20000 in
theorem gX4_ask_X4_requireOngoing : GoodIn wsX4_ask (wsV RX4 156 RX4 yX4_requireOngoing wsX4_requireOngoing) := goodIn_app (goodIn_of _ (by decide +kernel)) ggX4_ask_X4_requireOngoing
set_option maxRecDepth 20000 in
theorem ggX4_ask_X3_openBooking : GoodIn wsX4_ask wsX3_openBooking := goodIn_r _ [36, 37, 117, 118, 119, 120, 121, 122, 123, 124, 125] (by decide +kernel) (by decide +kernel)
set_option maxRecDepth 20000 in
theorem gX4_ask_X3_openBooking : GoodIn wsX4_ask (wsV RX4 159 RX3 yX3_openBooking wsX3_openBooking) := goodIn_app (goodIn_of _ (by decide +kernel)) ggX4_ask_X3_openBooking
set_option maxRecDepth 20000 in
theorem ggX4_ask_X1_isFull : GoodIn wsX4_ask wsX1_isFull := goodIn_r _ [42, 43, 126, 127, 128, 129, 130, 131, 132, 133, 134] (by decide +kernel) (by decide +kernel)
set_option maxRecDepth 20000 in
theorem gX4_ask_X1_isFull : GoodIn wsX4_ask (wsV RX4 162 RX1 yX1_isFull wsX1_isFull) := goodIn_app (goodIn_of _ (by decide +kernel)) ggX4_ask_X1_isFull
set_option maxRecDepth 20000 in
theorem ggX4_ask_X1_grain : GoodIn wsX4_ask wsX1_grain := goodIn_r _ [47, 48, 126, 127, 128, 129, 130, 131, 132, 133, 134] (by decide +kernel) (by decide +kernel)
set_option maxRecDepth 20000 in
theorem gX4_ask_X1_grain : GoodIn wsX4_ask (wsV RX4 163 RX1 yX1_grain wsX1_grain) := goodIn_app (goodIn_of _ (by decide +kernel)) ggX4_ask_X1_grain
set_option maxRecDepth 20000 in
theorem ggX4_ask_X3_yard : GoodIn wsX4_ask wsX3_yard := goodIn_r _ [52, 53, 117, 118, 119, 120, 121, 122, 123, 124, 125] (by decide +kernel) (by decide +kernel)
set_option maxRecDepth 20000 in
theorem gX4_ask_X3_yard : GoodIn wsX4_ask (wsV RX4 168 RX3 yX3_yard wsX3_yard) := goodIn_app (goodIn_of _ (by decide +kernel)) ggX4_ask_X3_yard
set_option maxRecDepth 20000 in
theorem ggX4_ask_X4_findWagon : GoodIn wsX4_ask wsX4_findWagon := goodIn_r _ [57, 58, 6, 59, 60, 10, 61, 62, 63, 64, 65, 66, 67, 68, 69, 70, 71, 72, 73, 74, 75, 41, 76, 77, 78, 79, 80, 81, 82, 83, 105, 106, 107, 108, 109, 110, 111, 112, 113, 114, 115, 116, 135, 136, 126, 127, 128, 129, 130, 131, 132, 133, 134] (by decide +kernel) (by decide +kernel)
set_option maxRecDepth 20000 in
theorem gX4_ask_X4_findWagon : GoodIn wsX4_ask (wsV RX4 171 RX4 yX4_findWagon wsX4_findWagon) := goodIn_app (goodIn_of _ (by decide +kernel)) ggX4_ask_X4_findWagon
set_option maxRecDepth 20000 in
theorem ggX4_ask_X3_customer : GoodIn wsX4_ask wsX3_customer := goodIn_r _ [87, 32, 117, 118, 119, 120, 121, 122, 123, 124, 125] (by decide +kernel) (by decide +kernel)
set_option maxRecDepth 20000 in
theorem gX4_ask_X3_customer : GoodIn wsX4_ask (wsV RX4 174 RX3 yX3_customer wsX3_customer) := goodIn_app (goodIn_of _ (by decide +kernel)) ggX4_ask_X3_customer
set_option maxRecDepth 20000 in
theorem ggX4_ask_X1_open : GoodIn wsX4_ask wsX1_open := goodIn_r _ [91, 43, 92, 93, 48, 94, 126, 127, 128, 129, 130, 131, 132, 133, 134] (by decide +kernel) (by decide +kernel)
set_option maxRecDepth 20000 in
theorem gX4_ask_X1_open : GoodIn wsX4_ask (wsV RX4 177 RX1 yX1_open wsX1_open) := goodIn_app (goodIn_of _ (by decide +kernel)) ggX4_ask_X1_open
set_option maxRecDepth 20000 in
theorem ggX4_ask_X3_setOpenBooking : GoodIn wsX4_ask wsX3_setOpenBooking := goodIn_r _ [98, 37, 117, 118, 119, 120, 121, 122, 123, 124, 125] (by decide +kernel) (by decide +kernel)
set_option maxRecDepth 20000 in
theorem gX4_ask_X3_setOpenBooking : GoodIn wsX4_ask (wsV RX4 181 RX3 yX3_setOpenBooking wsX3_setOpenBooking) := goodIn_app (goodIn_of _ (by decide +kernel)) ggX4_ask_X3_setOpenBooking
set_option maxRecDepth 20000 in
theorem ggX4_ask_X1_add : GoodIn wsX4_ask wsX1_add := goodIn_r _ [102, 103, 104, 77, 126, 127, 128, 129, 130, 131, 132, 133, 134] (by decide +kernel) (by decide +kernel)
set_option maxRecDepth 20000 in
theorem gX4_ask_X1_add : GoodIn wsX4_ask (wsV RX4 184 RX1 yX1_add wsX1_add) := goodIn_app (goodIn_of _ (by decide +kernel)) ggX4_ask_X1_add
set_option maxRecDepth 20000 in
theorem ggX4_confirm_X4_requireCall : GoodIn wsX4_confirm wsX4_requireCall := goodIn_ca (goodIn_r _ [9, 10, 11, 3, 12, 13, 14, 15, 16, 17, 43, 44, 45, 46, 47, 48, 49, 50, 51, 52, 53, 54, 55, 56, 57, 58, 59, 60, 61, 62, 63] (by decide +kernel) (by decide +kernel)) (goodIn_sub (fun _ h => List.mem_cons_of_mem _ (List.mem_append_right _ h)) (by decide +kernel))
set_option maxRecDepth 20000 in
theorem gX4_confirm_X4_requireCall : GoodIn wsX4_confirm (wsV RX4 151 RX4 yX4_requireCall wsX4_requireCall) := goodIn_app (goodIn_of _ (by decide +kernel)) ggX4_confirm_X4_requireCall
set_option maxRecDepth 20000 in
theorem ggX4_confirm_X4_requireOngoing : GoodIn wsX4_confirm wsX4_requireOngoing := goodIn_ca (goodIn_r _ [21, 1, 2, 3, 22, 23, 24, 15, 25, 26, 27, 43, 44, 45, 46, 47, 48, 49, 50, 51, 52, 53, 54, 55, 56, 57, 58, 59, 60, 61, 62, 63] (by decide +kernel) (by decide +kernel)) (goodIn_sub (fun _ h => List.mem_cons_of_mem _ (List.mem_append_left _ (List.mem_append_right _ h))) (by decide +kernel))
set_option maxRecDepth 20000 in
theorem gX4_confirm_X4_requireOngoing : GoodIn wsX4_confirm (wsV RX4 156 RX4 yX4_requireOngoing wsX4_requireOngoing) := goodIn_app (goodIn_of _ (by decide +kernel)) ggX4_confirm_X4_requireOngoing
set_option maxRecDepth 20000 in
theorem ggX4_confirm_X3_openBooking : GoodIn wsX4_confirm wsX3_openBooking := goodIn_r _ [31, 32, 55, 56, 57, 58, 59, 60, 61, 62, 63] (by decide +kernel) (by decide +kernel)
set_option maxRecDepth 20000 in
theorem gX4_confirm_X3_openBooking : GoodIn wsX4_confirm (wsV RX4 159 RX3 yX3_openBooking wsX3_openBooking) := goodIn_app (goodIn_of _ (by decide +kernel)) ggX4_confirm_X3_openBooking
set_option maxRecDepth 20000 in
theorem ggX4_confirm_X1_keep : GoodIn wsX4_confirm wsX1_keep := goodIn_r _ [37, 38, 64, 65, 66, 67, 68, 69, 70, 71, 72] (by decide +kernel) (by decide +kernel)
set_option maxRecDepth 20000 in
theorem gX4_confirm_X1_keep : GoodIn wsX4_confirm (wsV RX4 189 RX1 yX1_keep wsX1_keep) := goodIn_app (goodIn_of _ (by decide +kernel)) ggX4_confirm_X1_keep
set_option maxRecDepth 20000 in
theorem ggX4_confirm_X3_setOpenBooking : GoodIn wsX4_confirm wsX3_setOpenBooking := goodIn_r _ [42, 32, 55, 56, 57, 58, 59, 60, 61, 62, 63] (by decide +kernel) (by decide +kernel)
set_option maxRecDepth 20000 in
theorem gX4_confirm_X3_setOpenBooking : GoodIn wsX4_confirm (wsV RX4 181 RX3 yX3_setOpenBooking wsX3_setOpenBooking) := goodIn_app (goodIn_of _ (by decide +kernel)) ggX4_confirm_X3_setOpenBooking
set_option maxRecDepth 20000 in
theorem ggX4_resume_X4_requireCall : GoodIn wsX4_resume wsX4_requireCall := goodIn_ca (goodIn_r _ [9, 10, 11, 3, 12, 13, 14, 15, 16, 17, 84, 85, 86, 87, 88, 89, 90, 91, 92, 93, 94, 95, 96, 97, 98, 99, 100, 101, 102, 103, 104] (by decide +kernel) (by decide +kernel)) (goodIn_sub (fun _ h => List.mem_cons_of_mem _ (List.mem_append_right _ h)) (by decide +kernel))
set_option maxRecDepth 20000 in
theorem gX4_resume_X4_requireCall : GoodIn wsX4_resume (wsV RX4 151 RX4 yX4_requireCall wsX4_requireCall) := goodIn_app (goodIn_of _ (by decide +kernel)) ggX4_resume_X4_requireCall
set_option maxRecDepth 20000 in
theorem ggX4_resume_X4_requireBooking : GoodIn wsX4_resume wsX4_requireBooking := goodIn_ca (goodIn_r _ [21, 10, 11, 4, 22, 23, 24, 25, 26, 27, 84, 85, 86, 87, 88, 89, 90, 91, 92, 93, 94, 95, 105, 106, 107, 108, 109, 110, 111, 112, 113] (by decide +kernel) (by decide +kernel)) (goodIn_sub (fun _ h => List.mem_cons_of_mem _ (List.mem_append_right _ h)) (by decide +kernel))
set_option maxRecDepth 20000 in
theorem gX4_resume_X4_requireBooking : GoodIn wsX4_resume (wsV RX4 192 RX4 yX4_requireBooking wsX4_requireBooking) := goodIn_app (goodIn_of _ (by decide +kernel)) ggX4_resume_X4_requireBooking
set_option maxRecDepth 20000 in
theorem ggX4_resume_X4_requireOngoing : GoodIn wsX4_resume wsX4_requireOngoing := goodIn_ca (goodIn_r _ [31, 1, 2, 3, 32, 33, 34, 15, 35, 36, 37, 84, 85, 86, 87, 88, 89, 90, 91, 92, 93, 94, 95, 96, 97, 98, 99, 100, 101, 102, 103, 104] (by decide +kernel) (by decide +kernel)) (goodIn_sub (fun _ h => List.mem_cons_of_mem _ (List.mem_append_left _ (List.mem_append_right _ h))) (by decide +kernel))
set_option maxRecDepth 20000 in
theorem gX4_resume_X4_requireOngoing : GoodIn wsX4_resume (wsV RX4 156 RX4 yX4_requireOngoing wsX4_requireOngoing) := goodIn_app (goodIn_of _ (by decide +kernel)) ggX4_resume_X4_requireOngoing
set_option maxRecDepth 20000 in
theorem ggX4_resume_X3_openBooking : GoodIn wsX4_resume wsX3_openBooking := goodIn_r _ [41, 42, 96, 97, 98, 99, 100, 101, 102, 103, 104] (by decide +kernel) (by decide +kernel)
set_option maxRecDepth 20000 in
theorem gX4_resume_X3_openBooking : GoodIn wsX4_resume (wsV RX4 159 RX3 yX3_openBooking wsX3_openBooking) := goodIn_app (goodIn_of _ (by decide +kernel)) ggX4_resume_X3_openBooking
set_option maxRecDepth 20000 in
theorem ggX4_resume_X4_isWithin : GoodIn wsX4_resume wsX4_isWithin := goodIn_r _ [46, 4, 3, 47, 48, 49, 25, 50, 51, 52, 53, 54, 55, 56, 57, 58, 59, 15, 60, 37, 61, 62, 63, 64, 65, 66, 67, 68, 69, 70, 84, 85, 86, 87, 88, 89, 90, 91, 92, 93, 94, 95, 105, 106, 107, 108, 109, 110, 111, 112, 113, 96, 97, 98, 99, 100, 101, 102, 103, 104] (by decide +kernel) (by decide +kernel)
set_option maxRecDepth 20000 in
theorem gX4_resume_X4_isWithin : GoodIn wsX4_resume (wsV RX4 195 RX4 yX4_isWithin wsX4_isWithin) := goodIn_app (goodIn_of _ (by decide +kernel)) ggX4_resume_X4_isWithin
set_option maxRecDepth 20000 in
theorem ggX4_resume_X1_keep : GoodIn wsX4_resume wsX1_keep := goodIn_r _ [74, 51, 105, 106, 107, 108, 109, 110, 111, 112, 113] (by decide +kernel) (by decide +kernel)
set_option maxRecDepth 20000 in
theorem gX4_resume_X1_keep : GoodIn wsX4_resume (wsV RX4 189 RX1 yX1_keep wsX1_keep) := goodIn_app (goodIn_of _ (by decide +kernel)) ggX4_resume_X1_keep
set_option maxRecDepth 20000 in
theorem ggX4_resume_X3_setOpenBooking : GoodIn wsX4_resume wsX3_setOpenBooking := goodIn_r _ [78, 42, 96, 97, 98, 99, 100, 101, 102, 103, 104] (by decide +kernel) (by decide +kernel)
set_option maxRecDepth 20000 in
theorem gX4_resume_X3_setOpenBooking : GoodIn wsX4_resume (wsV RX4 181 RX3 yX3_setOpenBooking wsX3_setOpenBooking) := goodIn_app (goodIn_of _ (by decide +kernel)) ggX4_resume_X3_setOpenBooking
set_option maxRecDepth 20000 in
theorem ggX4_resume_X1_size : GoodIn wsX4_resume wsX1_size := goodIn_r _ [82, 83, 105, 106, 107, 108, 109, 110, 111, 112, 113] (by decide +kernel) (by decide +kernel)
set_option maxRecDepth 20000 in
theorem gX4_resume_X1_size : GoodIn wsX4_resume (wsV RX4 201 RX1 yX1_size wsX1_size) := goodIn_app (goodIn_of _ (by decide +kernel)) ggX4_resume_X1_size
set_option maxRecDepth 20000 in
theorem ggX4_cancel_X4_requireCall : GoodIn wsX4_cancel wsX4_requireCall := goodIn_ca (goodIn_r _ [8, 9, 10, 11, 12, 13, 14, 15, 16, 17, 81, 82, 83, 84, 85, 86, 87, 88, 89, 90, 91, 92, 93, 94, 95, 96, 97, 98, 99, 100, 101] (by decide +kernel) (by decide +kernel)) (goodIn_sub (fun _ h => List.mem_cons_of_mem _ (List.mem_append_right _ h)) (by decide +kernel))
set_option maxRecDepth 20000 in
theorem gX4_cancel_X4_requireCall : GoodIn wsX4_cancel (wsV RX4 151 RX4 yX4_requireCall wsX4_requireCall) := goodIn_app (goodIn_of _ (by decide +kernel)) ggX4_cancel_X4_requireCall
set_option maxRecDepth 20000 in
theorem ggX4_cancel_X4_requireBooking : GoodIn wsX4_cancel wsX4_requireBooking := goodIn_ca (goodIn_r _ [21, 9, 10, 3, 22, 23, 24, 25, 26, 27, 81, 82, 83, 84, 85, 86, 87, 88, 89, 90, 91, 92, 102, 103, 104, 105, 106, 107, 108, 109, 110] (by decide +kernel) (by decide +kernel)) (goodIn_sub (fun _ h => List.mem_cons_of_mem _ (List.mem_append_right _ h)) (by decide +kernel))
set_option maxRecDepth 20000 in
theorem gX4_cancel_X4_requireBooking : GoodIn wsX4_cancel (wsV RX4 192 RX4 yX4_requireBooking wsX4_requireBooking) := goodIn_app (goodIn_of _ (by decide +kernel)) ggX4_cancel_X4_requireBooking
set_option maxRecDepth 20000 in
theorem ggX4_cancel_X4_requireOngoing : GoodIn wsX4_cancel wsX4_requireOngoing := goodIn_ca (goodIn_r _ [31, 1, 2, 11, 32, 33, 34, 15, 35, 36, 37, 81, 82, 83, 84, 85, 86, 87, 88, 89, 90, 91, 92, 93, 94, 95, 96, 97, 98, 99, 100, 101] (by decide +kernel) (by decide +kernel)) (goodIn_sub (fun _ h => List.mem_cons_of_mem _ (List.mem_append_left _ (List.mem_append_right _ h))) (by decide +kernel))
set_option maxRecDepth 20000 in
theorem gX4_cancel_X4_requireOngoing : GoodIn wsX4_cancel (wsV RX4 156 RX4 yX4_requireOngoing wsX4_requireOngoing) := goodIn_app (goodIn_of _ (by decide +kernel)) ggX4_cancel_X4_requireOngoing
set_option maxRecDepth 20000 in
theorem ggX4_cancel_X4_isWithin : GoodIn wsX4_cancel wsX4_isWithin := goodIn_r _ [41, 3, 11, 42, 43, 44, 25, 45, 46, 47, 48, 49, 50, 51, 52, 53, 54, 15, 55, 37, 56, 57, 58, 59, 60, 61, 62, 63, 64, 65, 81, 82, 83, 84, 85, 86, 87, 88, 89, 90, 91, 92, 102, 103, 104, 105, 106, 107, 108, 109, 110, 93, 94, 95, 96, 97, 98, 99, 100, 101] (by decide +kernel) (by decide +kernel)
set_option maxRecDepth 20000 in
theorem gX4_cancel_X4_isWithin : GoodIn wsX4_cancel (wsV RX4 195 RX4 yX4_isWithin wsX4_isWithin) := goodIn_app (goodIn_of _ (by decide +kernel)) ggX4_cancel_X4_isWithin
set_option maxRecDepth 20000 in
theorem ggX4_cancel_X1_release : GoodIn wsX4_cancel wsX1_release := goodIn_r _ [69, 46, 70, 71, 72, 73, 74, 25, 75, 76, 102, 103, 104, 105, 106, 107, 108, 109, 110] (by decide +kernel) (by decide +kernel)
set_option maxRecDepth 20000 in
theorem gX4_cancel_X1_release : GoodIn wsX4_cancel (wsV RX4 206 RX1 yX1_release wsX1_release) := goodIn_app (goodIn_of _ (by decide +kernel)) ggX4_cancel_X1_release
set_option maxRecDepth 20000 in
theorem ggX4_cancel_X1_size : GoodIn wsX4_cancel wsX1_size := goodIn_r _ [80, 70, 102, 103, 104, 105, 106, 107, 108, 109, 110] (by decide +kernel) (by decide +kernel)
set_option maxRecDepth 20000 in
theorem gX4_cancel_X1_size : GoodIn wsX4_cancel (wsV RX4 201 RX1 yX1_size wsX1_size) := goodIn_app (goodIn_of _ (by decide +kernel)) ggX4_cancel_X1_size
set_option maxRecDepth 20000 in
theorem ggX4_hangUp_X4_requireCall : GoodIn wsX4_hangUp wsX4_requireCall := goodIn_ca (goodIn_r _ [7, 8, 9, 1, 10, 11, 12, 13, 14, 15, 61, 62, 63, 64, 65, 66, 67, 68, 69, 70, 71, 72, 73, 74, 75, 76, 77, 78, 79, 80, 81] (by decide +kernel) (by decide +kernel)) (goodIn_sub (fun _ h => List.mem_cons_of_mem _ (List.mem_append_left _ (List.mem_append_right _ h))) (by decide +kernel))
set_option maxRecDepth 20000 in
theorem gX4_hangUp_X4_requireCall : GoodIn wsX4_hangUp (wsV RX4 151 RX4 yX4_requireCall wsX4_requireCall) := goodIn_app (goodIn_of _ (by decide +kernel)) ggX4_hangUp_X4_requireCall
set_option maxRecDepth 20000 in
theorem ggX4_hangUp_X4_requireOngoing : GoodIn wsX4_hangUp wsX4_requireOngoing := goodIn_ca (goodIn_r _ [19, 20, 21, 1, 22, 23, 24, 13, 25, 26, 27, 61, 62, 63, 64, 65, 66, 67, 68, 69, 70, 71, 72, 73, 74, 75, 76, 77, 78, 79, 80, 81] (by decide +kernel) (by decide +kernel)) (goodIn_sub (fun _ h => List.mem_cons_of_mem _ (List.mem_append_right _ h)) (by decide +kernel))
set_option maxRecDepth 20000 in
theorem gX4_hangUp_X4_requireOngoing : GoodIn wsX4_hangUp (wsV RX4 156 RX4 yX4_requireOngoing wsX4_requireOngoing) := goodIn_app (goodIn_of _ (by decide +kernel)) ggX4_hangUp_X4_requireOngoing
set_option maxRecDepth 20000 in
theorem ggX4_hangUp_X3_openBooking : GoodIn wsX4_hangUp wsX3_openBooking := goodIn_r _ [31, 32, 73, 74, 75, 76, 77, 78, 79, 80, 81] (by decide +kernel) (by decide +kernel)
set_option maxRecDepth 20000 in
theorem gX4_hangUp_X3_openBooking : GoodIn wsX4_hangUp (wsV RX4 159 RX3 yX3_openBooking wsX3_openBooking) := goodIn_app (goodIn_of _ (by decide +kernel)) ggX4_hangUp_X3_openBooking
set_option maxRecDepth 20000 in
theorem ggX4_hangUp_X3_end : GoodIn wsX4_hangUp wsX3_end := goodIn_r _ [36, 26, 27, 37, 38, 39, 40, 41, 13, 42, 43, 73, 74, 75, 76, 77, 78, 79, 80, 81] (by decide +kernel) (by decide +kernel)
set_option maxRecDepth 20000 in
theorem gX4_hangUp_X3_end : GoodIn wsX4_hangUp (wsV RX4 209 RX3 yX3_end wsX3_end) := goodIn_app (goodIn_of _ (by decide +kernel)) ggX4_hangUp_X3_end
set_option maxRecDepth 20000 in
theorem ggX4_hangUp_X1_release : GoodIn wsX4_hangUp wsX1_release := goodIn_r _ [48, 49, 50, 51, 52, 53, 54, 47, 55, 56, 82, 83, 84, 85, 86, 87, 88, 89, 90] (by decide +kernel) (by decide +kernel)
set_option maxRecDepth 20000 in
theorem gX4_hangUp_X1_release : GoodIn wsX4_hangUp (wsV RX4 206 RX1 yX1_release wsX1_release) := goodIn_app (goodIn_of _ (by decide +kernel)) ggX4_hangUp_X1_release
set_option maxRecDepth 20000 in
theorem ggX4_hangUp_X1_size : GoodIn wsX4_hangUp wsX1_size := goodIn_r _ [60, 50, 82, 83, 84, 85, 86, 87, 88, 89, 90] (by decide +kernel) (by decide +kernel)
set_option maxRecDepth 20000 in
theorem gX4_hangUp_X1_size : GoodIn wsX4_hangUp (wsV RX4 201 RX1 yX1_size wsX1_size) := goodIn_app (goodIn_of _ (by decide +kernel)) ggX4_hangUp_X1_size
set_option maxRecDepth 20000 in
theorem ggX4_callOf_X4_requireCustomer : GoodIn wsX4_callOf wsX4_requireCustomer := goodIn_ca (goodIn_r _ [5, 6, 7] (by decide +kernel) (by decide +kernel)) (goodIn_sub (fun _ h => List.mem_cons_of_mem _ (List.mem_append_right _ h)) (by decide +kernel))
set_option maxRecDepth 20000 in
theorem gX4_callOf_X4_requireCustomer : GoodIn wsX4_callOf (va_wsS RX4 133 yX4_requireCustomer wsX4_requireCustomer) := goodIn_app (goodIn_of _ (by decide +kernel)) ggX4_callOf_X4_requireCustomer
set_option maxRecDepth 20000 in
theorem ggX4_callOf_X3_ongoing : GoodIn wsX4_callOf wsX3_ongoing := goodIn_r _ [12, 13, 26, 27, 28, 29, 30, 31, 32, 33, 34] (by decide +kernel) (by decide +kernel)
set_option maxRecDepth 20000 in
theorem gX4_callOf_X3_ongoing : GoodIn wsX4_callOf (wsV RX4 136 RX3 yX3_ongoing wsX3_ongoing) := goodIn_app (goodIn_of _ (by decide +kernel)) ggX4_callOf_X3_ongoing
set_option maxRecDepth 20000 in
theorem ggX4_way_X4_requireCall : GoodIn wsX4_way wsX4_requireCall := goodIn_ca (goodIn_r _ [6, 7, 8, 1, 9, 10, 11, 12, 13, 14, 33, 34, 35, 36, 37, 38, 39, 40, 41, 42, 43, 44, 45, 46, 47, 48, 49, 50, 51, 52, 53] (by decide +kernel) (by decide +kernel)) (goodIn_sub (fun _ h => List.mem_cons_of_mem _ (List.mem_append_left _ (List.mem_append_right _ h))) (by decide +kernel))
set_option maxRecDepth 20000 in
theorem gX4_way_X4_requireCall : GoodIn wsX4_way (wsV RX4 151 RX4 yX4_requireCall wsX4_requireCall) := goodIn_app (goodIn_of _ (by decide +kernel)) ggX4_way_X4_requireCall
set_option maxRecDepth 20000 in
theorem ggX4_way_X4_requireOngoing : GoodIn wsX4_way wsX4_requireOngoing := goodIn_ca (goodIn_r _ [18, 19, 20, 1, 21, 22, 23, 12, 24, 25, 26, 33, 34, 35, 36, 37, 38, 39, 40, 41, 42, 43, 44, 45, 46, 47, 48, 49, 50, 51, 52, 53] (by decide +kernel) (by decide +kernel)) (goodIn_sub (fun _ h => List.mem_cons_of_mem _ (List.mem_append_right _ h)) (by decide +kernel))
set_option maxRecDepth 20000 in
theorem gX4_way_X4_requireOngoing : GoodIn wsX4_way (wsV RX4 156 RX4 yX4_requireOngoing wsX4_requireOngoing) := goodIn_app (goodIn_of _ (by decide +kernel)) ggX4_way_X4_requireOngoing
set_option maxRecDepth 20000 in
theorem ggX4_way_X3_trunksOf : GoodIn wsX4_way wsX3_trunksOf := goodIn_r _ [30, 31, 32, 45, 46, 47, 48, 49, 50, 51, 52, 53] (by decide +kernel) (by decide +kernel)
set_option maxRecDepth 20000 in
theorem gX4_way_X3_trunksOf : GoodIn wsX4_way (wsV RX4 212 RX3 yX3_trunksOf wsX3_trunksOf) := goodIn_app (goodIn_of _ (by decide +kernel)) ggX4_way_X3_trunksOf
set_option maxRecDepth 20000 in
theorem ggX4_cut_X4_requireTrunk : GoodIn wsX4_cut wsX4_requireTrunk := goodIn_ca (goodIn_r _ [7, 8, 9, 10, 11, 6, 12] (by decide +kernel) (by decide +kernel)) (goodIn_sub (fun _ h => List.mem_cons_of_mem _ (List.mem_append_right _ h)) (by decide +kernel))
set_option maxRecDepth 20000 in
theorem gX4_cut_X4_requireTrunk : GoodIn wsX4_cut (va_wsS RX4 215 yX4_requireTrunk wsX4_requireTrunk) := goodIn_app (goodIn_of _ (by decide +kernel)) ggX4_cut_X4_requireTrunk
set_option maxRecDepth 20000 in
theorem ggX4_cut_X4_slotOf : GoodIn wsX4_cut wsX4_slotOf := goodIn_r _ [15] (by decide +kernel) (by decide +kernel)
set_option maxRecDepth 20000 in
theorem gX4_cut_X4_slotOf : GoodIn wsX4_cut (va_wsS RX4 218 yX4_slotOf wsX4_slotOf) := goodIn_app (goodIn_of _ (by decide +kernel)) ggX4_cut_X4_slotOf
set_option maxRecDepth 20000 in
theorem ggX4_cut_X3_trunkHas : GoodIn wsX4_cut wsX3_trunkHas := goodIn_r _ [20, 21, 68, 69, 70, 71, 72, 73, 74, 75, 76] (by decide +kernel) (by decide +kernel)
set_option maxRecDepth 20000 in
theorem gX4_cut_X3_trunkHas : GoodIn wsX4_cut (wsV RX4 221 RX3 yX3_trunkHas wsX3_trunkHas) := goodIn_app (goodIn_of _ (by decide +kernel)) ggX4_cut_X3_trunkHas
set_option maxRecDepth 20000 in
theorem ggX4_cut_X4_cutOff : GoodIn wsX4_cut wsX4_cutOff := goodIn_r _ [25, 3, 26, 27, 28, 29, 30, 19, 31, 32, 33, 34, 35, 36, 37, 38, 39, 40, 41, 42, 43, 44, 21, 45, 46, 47, 48, 49, 50, 51, 56, 57, 58, 59, 60, 61, 62, 63, 64, 65, 66, 67, 68, 69, 70, 71, 72, 73, 74, 75, 76, 77, 78, 79, 80, 81, 82, 83, 84, 85] (by decide +kernel) (by decide +kernel)
set_option maxRecDepth 20000 in
theorem gX4_cut_X4_cutOff : GoodIn wsX4_cut (wsV RX4 226 RX4 yX4_cutOff wsX4_cutOff) := goodIn_app (goodIn_of _ (by decide +kernel)) ggX4_cut_X4_cutOff
set_option maxRecDepth 20000 in
theorem ggX4_cut_X3_setTrunk : GoodIn wsX4_cut wsX3_setTrunk := goodIn_r _ [55, 21, 68, 69, 70, 71, 72, 73, 74, 75, 76] (by decide +kernel) (by decide +kernel)
set_option maxRecDepth 20000 in
theorem gX4_cut_X3_setTrunk : GoodIn wsX4_cut (wsV RX4 229 RX3 yX3_setTrunk wsX3_setTrunk) := goodIn_app (goodIn_of _ (by decide +kernel)) ggX4_cut_X3_setTrunk
set_option maxRecDepth 20000 in
theorem ggX4_mend_X4_requireTrunk : GoodIn wsX4_mend wsX4_requireTrunk := goodIn_ca (goodIn_r _ [7, 8, 9, 10, 11, 6, 12] (by decide +kernel) (by decide +kernel)) (goodIn_sub (fun _ h => List.mem_cons_of_mem _ (List.mem_append_right _ h)) (by decide +kernel))
set_option maxRecDepth 20000 in
theorem gX4_mend_X4_requireTrunk : GoodIn wsX4_mend (va_wsS RX4 215 yX4_requireTrunk wsX4_requireTrunk) := goodIn_app (goodIn_of _ (by decide +kernel)) ggX4_mend_X4_requireTrunk
set_option maxRecDepth 20000 in
theorem ggX4_mend_X4_slotOf : GoodIn wsX4_mend wsX4_slotOf := goodIn_r _ [15] (by decide +kernel) (by decide +kernel)
set_option maxRecDepth 20000 in
theorem gX4_mend_X4_slotOf : GoodIn wsX4_mend (va_wsS RX4 218 yX4_slotOf wsX4_slotOf) := goodIn_app (goodIn_of _ (by decide +kernel)) ggX4_mend_X4_slotOf
set_option maxRecDepth 20000 in
theorem ggX4_mend_X3_trunkHas : GoodIn wsX4_mend wsX3_trunkHas := goodIn_r _ [20, 21, 38, 39, 40, 41, 42, 43, 44, 45, 46] (by decide +kernel) (by decide +kernel)
set_option maxRecDepth 20000 in
theorem gX4_mend_X3_trunkHas : GoodIn wsX4_mend (wsV RX4 221 RX3 yX3_trunkHas wsX3_trunkHas) := goodIn_app (goodIn_of _ (by decide +kernel)) ggX4_mend_X3_trunkHas
set_option maxRecDepth 20000 in
theorem ggX4_mend_X3_setTrunk : GoodIn wsX4_mend wsX3_setTrunk := goodIn_r _ [25, 21, 38, 39, 40, 41, 42, 43, 44, 45, 46] (by decide +kernel) (by decide +kernel)
set_option maxRecDepth 20000 in
theorem gX4_mend_X3_setTrunk : GoodIn wsX4_mend (wsV RX4 229 RX3 yX3_setTrunk wsX3_setTrunk) := goodIn_app (goodIn_of _ (by decide +kernel)) ggX4_mend_X3_setTrunk
set_option maxRecDepth 20000 in
theorem ggX4_trunk_X4_requireTrunk : GoodIn wsX4_trunk wsX4_requireTrunk := goodIn_ca (goodIn_r _ [5, 6, 7, 8, 9, 4, 10] (by decide +kernel) (by decide +kernel)) (goodIn_sub (fun _ h => List.mem_cons_of_mem _ (List.mem_append_right _ h)) (by decide +kernel))
set_option maxRecDepth 20000 in
theorem gX4_trunk_X4_requireTrunk : GoodIn wsX4_trunk (va_wsS RX4 215 yX4_requireTrunk wsX4_requireTrunk) := goodIn_app (goodIn_of _ (by decide +kernel)) ggX4_trunk_X4_requireTrunk
set_option maxRecDepth 20000 in
theorem ggX4_trunk_X4_slotOf : GoodIn wsX4_trunk wsX4_slotOf := goodIn_r _ [13] (by decide +kernel) (by decide +kernel)
set_option maxRecDepth 20000 in
theorem gX4_trunk_X4_slotOf : GoodIn wsX4_trunk (va_wsS RX4 218 yX4_slotOf wsX4_slotOf) := goodIn_app (goodIn_of _ (by decide +kernel)) ggX4_trunk_X4_slotOf
set_option maxRecDepth 20000 in
theorem ggX4_trunk_X3_trunkHas : GoodIn wsX4_trunk wsX3_trunkHas := goodIn_r _ [18, 19, 32, 33, 34, 35, 36, 37, 38, 39, 40] (by decide +kernel) (by decide +kernel)
set_option maxRecDepth 20000 in
theorem gX4_trunk_X3_trunkHas : GoodIn wsX4_trunk (wsV RX4 221 RX3 yX3_trunkHas wsX3_trunkHas) := goodIn_app (goodIn_of _ (by decide +kernel)) ggX4_trunk_X3_trunkHas
set_option maxRecDepth 20000 in
theorem ggX4_setLines_X4_requireYard : GoodIn wsX4_setLines wsX4_requireYard := goodIn_ca (goodIn_r _ [9, 1, 2, 10, 11, 8, 12] (by decide +kernel) (by decide +kernel)) (goodIn_sub (fun _ h => List.mem_cons_of_mem _ (List.mem_append_left _ (List.mem_append_right _ h))) (by decide +kernel))
set_option maxRecDepth 20000 in
theorem gX4_setLines_X4_requireYard : GoodIn wsX4_setLines (va_wsS RX4 101 yX4_requireYard wsX4_requireYard) := goodIn_app (goodIn_of _ (by decide +kernel)) ggX4_setLines_X4_requireYard
set_option maxRecDepth 20000 in
theorem ggX4_setLines_X3_callsTo : GoodIn wsX4_setLines wsX3_callsTo := goodIn_r _ [17, 18, 19, 37, 38, 39, 40, 41, 42, 43, 44, 45] (by decide +kernel) (by decide +kernel)
set_option maxRecDepth 20000 in
theorem gX4_setLines_X3_callsTo : GoodIn wsX4_setLines (wsV RX4 236 RX3 yX3_callsTo wsX3_callsTo) := goodIn_app (goodIn_of _ (by decide +kernel)) ggX4_setLines_X3_callsTo
set_option maxRecDepth 20000 in
theorem ggX4_setLines_X3_changeLines : GoodIn wsX4_setLines wsX3_changeLines := goodIn_r _ [23, 24, 37, 38, 39, 40, 41, 42, 43, 44, 45] (by decide +kernel) (by decide +kernel)
set_option maxRecDepth 20000 in
theorem gX4_setLines_X3_changeLines : GoodIn wsX4_setLines (wsV RX4 241 RX3 yX3_changeLines wsX3_changeLines) := goodIn_app (goodIn_of _ (by decide +kernel)) ggX4_setLines_X3_changeLines
set_option maxRecDepth 20000 in
theorem ggX4_pass_X1_lapseAll : GoodIn wsX4_pass wsX1_lapseAll := goodIn_r _ [11, 12, 13, 14, 15, 16, 17, 10, 18, 19, 20, 21, 22, 23, 24, 25, 38, 39, 40, 41, 42, 43, 44, 45, 46] (by decide +kernel) (by decide +kernel)
set_option maxRecDepth 20000 in
theorem gX4_pass_X1_lapseAll : GoodIn wsX4_pass (wsV RX4 251 RX1 yX1_lapseAll wsX1_lapseAll) := goodIn_app (goodIn_of _ (by decide +kernel)) ggX4_pass_X1_lapseAll
set_option maxRecDepth 20000 in
theorem ggX4_bookings_X1_opened : GoodIn wsX4_bookings wsX1_opened := goodIn_r _ [6, 7, 20, 21, 22, 23, 24, 25, 26, 27, 28] (by decide +kernel) (by decide +kernel)
set_option maxRecDepth 20000 in
theorem gX4_bookings_X1_opened : GoodIn wsX4_bookings (wsV RX4 254 RX1 yX1_opened wsX1_opened) := goodIn_app (goodIn_of _ (by decide +kernel)) ggX4_bookings_X1_opened
set_option maxRecDepth 20000 in
theorem ggX4_state_X4_requireBooking : GoodIn wsX4_state wsX4_requireBooking := goodIn_ca (goodIn_r _ [6, 7, 8, 1, 9, 10, 11, 12, 13, 14, 20, 21, 22, 23, 24, 25, 26, 27, 28, 29, 30, 31, 32, 33, 34, 35, 36, 37, 38, 39, 40] (by decide +kernel) (by decide +kernel)) (goodIn_sub (fun _ h => List.mem_cons_of_mem _ (List.mem_append_right _ h)) (by decide +kernel))
set_option maxRecDepth 20000 in
theorem gX4_state_X4_requireBooking : GoodIn wsX4_state (wsV RX4 192 RX4 yX4_requireBooking wsX4_requireBooking) := goodIn_app (goodIn_of _ (by decide +kernel)) ggX4_state_X4_requireBooking
set_option maxRecDepth 20000 in
theorem ggX4_state_X1_standing : GoodIn wsX4_state wsX1_standing := goodIn_r _ [18, 19, 32, 33, 34, 35, 36, 37, 38, 39, 40] (by decide +kernel) (by decide +kernel)
set_option maxRecDepth 20000 in
theorem gX4_state_X1_standing : GoodIn wsX4_state (wsV RX4 258 RX1 yX1_standing wsX1_standing) := goodIn_app (goodIn_of _ (by decide +kernel)) ggX4_state_X1_standing
set_option maxRecDepth 20000 in
theorem ggX4_wagons_X4_requireBooking : GoodIn wsX4_wagons wsX4_requireBooking := goodIn_ca (goodIn_r _ [6, 7, 8, 1, 9, 10, 11, 12, 13, 14, 20, 21, 22, 23, 24, 25, 26, 27, 28, 29, 30, 31, 32, 33, 34, 35, 36, 37, 38, 39, 40] (by decide +kernel) (by decide +kernel)) (goodIn_sub (fun _ h => List.mem_cons_of_mem _ (List.mem_append_right _ h)) (by decide +kernel))
set_option maxRecDepth 20000 in
theorem gX4_wagons_X4_requireBooking : GoodIn wsX4_wagons (wsV RX4 192 RX4 yX4_requireBooking wsX4_requireBooking) := goodIn_app (goodIn_of _ (by decide +kernel)) ggX4_wagons_X4_requireBooking
set_option maxRecDepth 20000 in
theorem ggX4_wagons_X1_size : GoodIn wsX4_wagons wsX1_size := goodIn_r _ [18, 19, 32, 33, 34, 35, 36, 37, 38, 39, 40] (by decide +kernel) (by decide +kernel)
set_option maxRecDepth 20000 in
theorem gX4_wagons_X1_size : GoodIn wsX4_wagons (wsV RX4 201 RX1 yX1_size wsX1_size) := goodIn_app (goodIn_of _ (by decide +kernel)) ggX4_wagons_X1_size
set_option maxRecDepth 20000 in
theorem ggX4_wagonOf_X4_requireBooking : GoodIn wsX4_wagonOf wsX4_requireBooking := goodIn_ca (goodIn_r _ [8, 1, 2, 3, 9, 10, 11, 12, 13, 14, 25, 26, 27, 28, 29, 30, 31, 32, 33, 34, 35, 36, 37, 38, 39, 40, 41, 42, 43, 44, 45] (by decide +kernel) (by decide +kernel)) (goodIn_sub (fun _ h => List.mem_cons_of_mem _ (List.mem_append_right _ h)) (by decide +kernel))
set_option maxRecDepth 20000 in
theorem gX4_wagonOf_X4_requireBooking : GoodIn wsX4_wagonOf (wsV RX4 192 RX4 yX4_requireBooking wsX4_requireBooking) := goodIn_app (goodIn_of _ (by decide +kernel)) ggX4_wagonOf_X4_requireBooking
set_option maxRecDepth 20000 in
theorem ggX4_wagonOf_X1_size : GoodIn wsX4_wagonOf wsX1_size := goodIn_r _ [18, 19, 37, 38, 39, 40, 41, 42, 43, 44, 45] (by decide +kernel) (by decide +kernel)
set_option maxRecDepth 20000 in
theorem gX4_wagonOf_X1_size : GoodIn wsX4_wagonOf (wsV RX4 201 RX1 yX1_size wsX1_size) := goodIn_app (goodIn_of _ (by decide +kernel)) ggX4_wagonOf_X1_size
set_option maxRecDepth 20000 in
theorem ggX4_wagonOf_X1_get : GoodIn wsX4_wagonOf wsX1_get := goodIn_r _ [23, 24, 37, 38, 39, 40, 41, 42, 43, 44, 45] (by decide +kernel) (by decide +kernel)
set_option maxRecDepth 20000 in
theorem gX4_wagonOf_X1_get : GoodIn wsX4_wagonOf (wsV RX4 266 RX1 yX1_get wsX1_get) := goodIn_app (goodIn_of _ (by decide +kernel)) ggX4_wagonOf_X1_get
set_option maxRecDepth 20000 in
theorem ggX4_lapses_X4_requireBooking : GoodIn wsX4_lapses wsX4_requireBooking := goodIn_ca (goodIn_r _ [9, 10, 11, 3, 12, 13, 14, 15, 16, 17, 28, 29, 30, 31, 32, 33, 34, 35, 36, 37, 38, 39, 40, 41, 42, 43, 44, 45, 46, 47, 48] (by decide +kernel) (by decide +kernel)) (goodIn_sub (fun _ h => List.mem_cons_of_mem _ (List.mem_append_right _ h)) (by decide +kernel))
set_option maxRecDepth 20000 in
theorem gX4_lapses_X4_requireBooking : GoodIn wsX4_lapses (wsV RX4 192 RX4 yX4_requireBooking wsX4_requireBooking) := goodIn_app (goodIn_of _ (by decide +kernel)) ggX4_lapses_X4_requireBooking
set_option maxRecDepth 20000 in
theorem ggX4_lapses_X1_standing : GoodIn wsX4_lapses wsX1_standing := goodIn_r _ [21, 22, 40, 41, 42, 43, 44, 45, 46, 47, 48] (by decide +kernel) (by decide +kernel)
set_option maxRecDepth 20000 in
theorem gX4_lapses_X1_standing : GoodIn wsX4_lapses (wsV RX4 258 RX1 yX1_standing wsX1_standing) := goodIn_app (goodIn_of _ (by decide +kernel)) ggX4_lapses_X1_standing
set_option maxRecDepth 20000 in
theorem ggX4_lapses_X1_lapseTick : GoodIn wsX4_lapses wsX1_lapseTick := goodIn_r _ [26, 27, 40, 41, 42, 43, 44, 45, 46, 47, 48] (by decide +kernel) (by decide +kernel)
set_option maxRecDepth 20000 in
theorem gX4_lapses_X1_lapseTick : GoodIn wsX4_lapses (wsV RX4 269 RX1 yX1_lapseTick wsX1_lapseTick) := goodIn_app (goodIn_of _ (by decide +kernel)) ggX4_lapses_X1_lapseTick
set_option maxRecDepth 20000 in
theorem ggX4_depart_X4_requireTrack : GoodIn wsX4_depart wsX4_requireTrack := goodIn_ca (goodIn_r _ [11, 1, 2, 12, 13, 10, 14, 15, 16, 17] (by decide +kernel) (by decide +kernel)) (goodIn_sub (fun _ h => List.mem_cons_of_mem _ (List.mem_append_left _ (List.mem_append_right _ h))) (by decide +kernel))
set_option maxRecDepth 20000 in
theorem gX4_depart_X4_requireTrack : GoodIn wsX4_depart (va_wsS RX4 57 yX4_requireTrack wsX4_requireTrack) := goodIn_app (goodIn_of _ (by decide +kernel)) ggX4_depart_X4_requireTrack
set_option maxRecDepth 20000 in
theorem ggX4_depart_X4_requireYard : GoodIn wsX4_depart wsX4_requireYard := goodIn_ca (goodIn_r _ [20, 1, 2, 12, 13, 10, 14] (by decide +kernel) (by decide +kernel)) (goodIn_sub (fun _ h => List.mem_cons_of_mem _ (List.mem_append_left _ (List.mem_append_right _ h))) (by decide +kernel))
set_option maxRecDepth 20000 in
theorem gX4_depart_X4_requireYard : GoodIn wsX4_depart (va_wsS RX4 101 yX4_requireYard wsX4_requireYard) := goodIn_app (goodIn_of _ (by decide +kernel)) ggX4_depart_X4_requireYard
set_option maxRecDepth 20000 in
theorem ggX4_depart_X4_rowOf : GoodIn wsX4_depart wsX4_rowOf := goodIn_r _ [23] (by decide +kernel) (by decide +kernel)
set_option maxRecDepth 20000 in
theorem gX4_depart_X4_rowOf : GoodIn wsX4_depart (va_wsS RX4 61 yX4_rowOf wsX4_rowOf) := goodIn_app (goodIn_of _ (by decide +kernel)) ggX4_depart_X4_rowOf
set_option maxRecDepth 20000 in
theorem ggX4_depart_X4_canDepart : GoodIn wsX4_depart wsX4_canDepart := goodIn_r _ [27, 7, 28, 29, 30, 31, 32, 33, 34, 35, 36, 37, 38, 39, 40, 41, 42, 43, 44, 45, 46, 47, 48, 49, 50, 51, 52, 53, 10, 54, 55, 56, 57, 58, 59, 92, 93, 94, 95, 96, 97, 98, 99, 100, 101, 102, 103, 104, 105, 106, 107, 108, 109, 110, 111, 112, 113, 114] (by decide +kernel) (by decide +kernel)
set_option maxRecDepth 20000 in
theorem gX4_depart_X4_canDepart : GoodIn wsX4_depart (wsV RX4 277 RX4 yX4_canDepart wsX4_canDepart) := goodIn_app (goodIn_of _ (by decide +kernel)) ggX4_depart_X4_canDepart
set_option maxRecDepth 20000 in
theorem ggX4_depart_X4_load : GoodIn wsX4_depart wsX4_load := goodIn_r _ [63, 7, 28, 64, 29, 30, 31, 32, 33, 34, 35, 36, 37, 38, 39, 40, 41, 42, 43, 44, 45, 65, 66, 67, 68, 69, 70, 71, 72, 73, 50, 92, 93, 94, 95, 96, 97, 98, 99, 100, 101, 102, 103, 104, 105, 106, 107, 108, 109, 110, 111, 112, 113, 114] (by decide +kernel) (by decide +kernel)
set_option maxRecDepth 20000 in
theorem gX4_depart_X4_load : GoodIn wsX4_depart (wsV RX4 282 RX4 yX4_load wsX4_load) := goodIn_app (goodIn_of _ (by decide +kernel)) ggX4_depart_X4_load
set_option maxRecDepth 20000 in
theorem ggX4_depart_X2_count : GoodIn wsX4_depart wsX2_count := goodIn_r _ [33, 34, 104, 105] (by decide +kernel) (by decide +kernel)
set_option maxRecDepth 20000 in
theorem gX4_depart_X2_count : GoodIn wsX4_depart (wsV RX4 91 RX2 yX2_count wsX2_count) := goodIn_app (goodIn_of _ (by decide +kernel)) ggX4_depart_X2_count
set_option maxRecDepth 20000 in
theorem ggX4_depart_X4_moveLast : GoodIn wsX4_depart wsX4_moveLast := goodIn_r _ [77, 7, 78, 79, 80, 81, 32, 82, 34, 39, 83, 84, 85, 86, 87, 88, 89, 90, 91, 92, 93, 94, 95, 96, 97, 98, 99, 100, 101, 102, 103, 104, 105, 115, 116, 117, 118] (by decide +kernel) (by decide +kernel)
set_option maxRecDepth 20000 in
theorem gX4_depart_X4_moveLast : GoodIn wsX4_depart (wsV RX4 97 RX4 yX4_moveLast wsX4_moveLast) := goodIn_app (goodIn_of _ (by decide +kernel)) ggX4_depart_X4_moveLast
set_option maxRecDepth 20000 in
theorem ggX4_arrive_X4_isTrack : GoodIn wsX4_arrive wsX4_isTrack := goodIn_r _ [13] (by decide +kernel) (by decide +kernel)
set_option maxRecDepth 20000 in
theorem gX4_arrive_X4_isTrack : GoodIn wsX4_arrive (va_wsS RX4 287 yX4_isTrack wsX4_isTrack) := goodIn_app (goodIn_of _ (by decide +kernel)) ggX4_arrive_X4_isTrack
set_option maxRecDepth 20000 in
theorem ggX4_arrive_X4_rowOf : GoodIn wsX4_arrive wsX4_rowOf := goodIn_r _ [16] (by decide +kernel) (by decide +kernel)
set_option maxRecDepth 20000 in
theorem gX4_arrive_X4_rowOf : GoodIn wsX4_arrive (va_wsS RX4 61 yX4_rowOf wsX4_rowOf) := goodIn_app (goodIn_of _ (by decide +kernel)) ggX4_arrive_X4_rowOf
set_option maxRecDepth 20000 in
theorem ggX4_arrive_X2_count : GoodIn wsX4_arrive wsX2_count := goodIn_r _ [21, 22, 84, 85] (by decide +kernel) (by decide +kernel)
set_option maxRecDepth 20000 in
theorem gX4_arrive_X2_count : GoodIn wsX4_arrive (wsV RX4 91 RX2 yX2_count wsX2_count) := goodIn_app (goodIn_of _ (by decide +kernel)) ggX4_arrive_X2_count
set_option maxRecDepth 20000 in
theorem ggX4_arrive_X2_hasRoom : GoodIn wsX4_arrive wsX2_hasRoom := goodIn_r _ [26, 22, 84, 85] (by decide +kernel) (by decide +kernel)
set_option maxRecDepth 20000 in
theorem gX4_arrive_X2_hasRoom : GoodIn wsX4_arrive (wsV RX4 69 RX2 yX2_hasRoom wsX2_hasRoom) := goodIn_app (goodIn_of _ (by decide +kernel)) ggX4_arrive_X2_hasRoom
set_option maxRecDepth 20000 in
theorem ggX4_arrive_X4_unload : GoodIn wsX4_arrive wsX4_unload := goodIn_r _ [30, 9, 31, 17, 18, 19, 20, 21, 22, 32, 33, 34, 35, 36, 37, 38, 39, 40, 41, 42, 43, 44, 45, 46, 47, 48, 49, 50, 51, 52, 53, 72, 73, 74, 75, 76, 77, 78, 79, 80, 81, 82, 83, 84, 85, 86, 87, 88, 89, 90, 91, 92, 93, 94] (by decide +kernel) (by decide +kernel)
set_option maxRecDepth 20000 in
theorem gX4_arrive_X4_unload : GoodIn wsX4_arrive (wsV RX4 294 RX4 yX4_unload wsX4_unload) := goodIn_app (goodIn_of _ (by decide +kernel)) ggX4_arrive_X4_unload
set_option maxRecDepth 20000 in
theorem ggX4_arrive_X4_moveLast : GoodIn wsX4_arrive wsX4_moveLast := goodIn_r _ [57, 9, 58, 59, 60, 61, 20, 62, 22, 36, 63, 64, 65, 66, 67, 68, 69, 70, 71, 72, 73, 74, 75, 76, 77, 78, 79, 80, 81, 82, 83, 84, 85, 95, 96, 97, 98] (by decide +kernel) (by decide +kernel)
set_option maxRecDepth 20000 in
theorem gX4_arrive_X4_moveLast : GoodIn wsX4_arrive (wsV RX4 97 RX4 yX4_moveLast wsX4_moveLast) := goodIn_app (goodIn_of _ (by decide +kernel)) ggX4_arrive_X4_moveLast
set_option maxRecDepth 20000 in
theorem ggX4_requireYard_X4_isYard : GoodIn wsX4_requireYard wsX4_isYard := goodIn_r _ [6] (by decide +kernel) (by decide +kernel)
set_option maxRecDepth 20000 in
theorem gX4_requireYard_X4_isYard : GoodIn wsX4_requireYard (va_wsS RX4 297 yX4_isYard wsX4_isYard) := goodIn_app (goodIn_of _ (by decide +kernel)) ggX4_requireYard_X4_isYard
set_option maxRecDepth 20000 in
theorem ggX4_requireTrack_X4_isYard : GoodIn wsX4_requireTrack wsX4_isYard := goodIn_r _ [6] (by decide +kernel) (by decide +kernel)
set_option maxRecDepth 20000 in
theorem gX4_requireTrack_X4_isYard : GoodIn wsX4_requireTrack (va_wsS RX4 297 yX4_isYard wsX4_isYard) := goodIn_app (goodIn_of _ (by decide +kernel)) ggX4_requireTrack_X4_isYard
set_option maxRecDepth 20000 in
theorem ggX4_requireTrack_X4_isTrack : GoodIn wsX4_requireTrack wsX4_isTrack := goodIn_r _ [9] (by decide +kernel) (by decide +kernel)
set_option maxRecDepth 20000 in
theorem gX4_requireTrack_X4_isTrack : GoodIn wsX4_requireTrack (va_wsS RX4 287 yX4_isTrack wsX4_isTrack) := goodIn_app (goodIn_of _ (by decide +kernel)) ggX4_requireTrack_X4_isTrack
set_option maxRecDepth 20000 in
theorem ggX4_requireTrunk_X4_isExchange : GoodIn wsX4_requireTrunk wsX4_isExchange := goodIn_r _ [6] (by decide +kernel) (by decide +kernel)
set_option maxRecDepth 20000 in
theorem gX4_requireTrunk_X4_isExchange : GoodIn wsX4_requireTrunk (va_wsS RX4 306 yX4_isExchange wsX4_isExchange) := goodIn_app (goodIn_of _ (by decide +kernel)) ggX4_requireTrunk_X4_isExchange
set_option maxRecDepth 20000 in
theorem ggX4_requireCall_X3_hasBegun : GoodIn wsX4_requireCall wsX3_hasBegun := goodIn_r _ [8, 9, 22, 23, 24, 25, 26, 27, 28, 29, 30] (by decide +kernel) (by decide +kernel)
set_option maxRecDepth 20000 in
theorem gX4_requireCall_X3_hasBegun : GoodIn wsX4_requireCall (wsV RX4 313 RX3 yX3_hasBegun wsX3_hasBegun) := goodIn_app (goodIn_of _ (by decide +kernel)) ggX4_requireCall_X3_hasBegun
set_option maxRecDepth 20000 in
theorem ggX4_requireOngoing_X3_goesOn : GoodIn wsX4_requireOngoing wsX3_goesOn := goodIn_r _ [8, 9, 10, 23, 24, 25, 26, 27, 28, 29, 30, 31] (by decide +kernel) (by decide +kernel)
set_option maxRecDepth 20000 in
theorem gX4_requireOngoing_X3_goesOn : GoodIn wsX4_requireOngoing (wsV RX4 318 RX3 yX3_goesOn wsX3_goesOn) := goodIn_app (goodIn_of _ (by decide +kernel)) ggX4_requireOngoing_X3_goesOn
set_option maxRecDepth 20000 in
theorem ggX4_requireBooking_X1_opened : GoodIn wsX4_requireBooking wsX1_opened := goodIn_r _ [8, 9, 22, 23, 24, 25, 26, 27, 28, 29, 30] (by decide +kernel) (by decide +kernel)
set_option maxRecDepth 20000 in
theorem gX4_requireBooking_X1_opened : GoodIn wsX4_requireBooking (wsV RX4 254 RX1 yX1_opened wsX1_opened) := goodIn_app (goodIn_of _ (by decide +kernel)) ggX4_requireBooking_X1_opened
set_option maxRecDepth 20000 in
theorem ggX4_wagonIn_X2_count : GoodIn wsX4_wagonIn wsX2_count := goodIn_r _ [7, 8, 14, 15] (by decide +kernel) (by decide +kernel)
set_option maxRecDepth 20000 in
theorem gX4_wagonIn_X2_count : GoodIn wsX4_wagonIn (wsV RX4 91 RX2 yX2_count wsX2_count) := goodIn_app (goodIn_of _ (by decide +kernel)) ggX4_wagonIn_X2_count
set_option maxRecDepth 20000 in
theorem ggX4_wagonIn_X2_get : GoodIn wsX4_wagonIn wsX2_get := goodIn_r _ [12, 13, 14, 15] (by decide +kernel) (by decide +kernel)
set_option maxRecDepth 20000 in
theorem gX4_wagonIn_X2_get : GoodIn wsX4_wagonIn (wsV RX4 107 RX2 yX2_get wsX2_get) := goodIn_app (goodIn_of _ (by decide +kernel)) ggX4_wagonIn_X2_get
set_option maxRecDepth 20000 in
theorem ggX4_moveLast_X2_move : GoodIn wsX4_moveLast wsX2_move := goodIn_r _ [7, 8, 9, 31, 32] (by decide +kernel) (by decide +kernel)
set_option maxRecDepth 20000 in
theorem gX4_moveLast_X2_move : GoodIn wsX4_moveLast (wsV RX4 327 RX2 yX2_move wsX2_move) := goodIn_app (goodIn_of _ (by decide +kernel)) ggX4_moveLast_X2_move
set_option maxRecDepth 20000 in
theorem ggX4_moveLast_X0_noteMove : GoodIn wsX4_moveLast wsX0_noteMove := goodIn_r _ [14, 15, 16, 17, 18, 33, 34, 35, 36] (by decide +kernel) (by decide +kernel)
set_option maxRecDepth 20000 in
theorem gX4_moveLast_X0_noteMove : GoodIn wsX4_moveLast (wsV RX4 330 RX0 yX0_noteMove wsX0_noteMove) := goodIn_app (goodIn_of _ (by decide +kernel)) ggX4_moveLast_X0_noteMove
set_option maxRecDepth 20000 in
theorem ggX4_findWagon_X4_rowOf : GoodIn wsX4_findWagon wsX4_rowOf := goodIn_r _ [6] (by decide +kernel) (by decide +kernel)
set_option maxRecDepth 20000 in
theorem gX4_findWagon_X4_rowOf : GoodIn wsX4_findWagon (va_wsS RX4 61 yX4_rowOf wsX4_rowOf) := goodIn_app (goodIn_of _ (by decide +kernel)) ggX4_findWagon_X4_rowOf
set_option maxRecDepth 20000 in
theorem ggX4_findWagon_X2_count : GoodIn wsX4_findWagon wsX2_count := goodIn_r _ [11, 12, 42, 43] (by decide +kernel) (by decide +kernel)
set_option maxRecDepth 20000 in
theorem gX4_findWagon_X2_count : GoodIn wsX4_findWagon (wsV RX4 91 RX2 yX2_count wsX2_count) := goodIn_app (goodIn_of _ (by decide +kernel)) ggX4_findWagon_X2_count
set_option maxRecDepth 20000 in
theorem ggX4_findWagon_X2_get : GoodIn wsX4_findWagon wsX2_get := goodIn_r _ [16, 17, 42, 43] (by decide +kernel) (by decide +kernel)
set_option maxRecDepth 20000 in
theorem gX4_findWagon_X2_get : GoodIn wsX4_findWagon (wsV RX4 107 RX2 yX2_get wsX2_get) := goodIn_app (goodIn_of _ (by decide +kernel)) ggX4_findWagon_X2_get
set_option maxRecDepth 20000 in
theorem ggX4_findWagon_X1_bookingFor : GoodIn wsX4_findWagon wsX1_bookingFor := goodIn_r _ [22, 23, 44, 45, 46, 47, 48, 49, 50, 51, 52] (by decide +kernel) (by decide +kernel)
set_option maxRecDepth 20000 in
theorem gX4_findWagon_X1_bookingFor : GoodIn wsX4_findWagon (wsV RX4 130 RX1 yX1_bookingFor wsX1_bookingFor) := goodIn_app (goodIn_of _ (by decide +kernel)) ggX4_findWagon_X1_bookingFor
set_option maxRecDepth 20000 in
theorem ggX4_findWagon_X4_fits : GoodIn wsX4_findWagon wsX4_fits := goodIn_r _ [27, 28, 29, 30, 31, 32, 33, 34, 35, 36, 37, 38, 39, 40, 41] (by decide +kernel) (by decide +kernel)
set_option maxRecDepth 20000 in
theorem gX4_findWagon_X4_fits : GoodIn wsX4_findWagon (wsV RX4 333 RX4 yX4_fits wsX4_fits) := goodIn_app (goodIn_of _ (by decide +kernel)) ggX4_findWagon_X4_fits
set_option maxRecDepth 20000 in
theorem ggX4_isWithin_X1_standing : GoodIn wsX4_isWithin wsX1_standing := goodIn_r _ [7, 8, 42, 43, 44, 45, 46, 47, 48, 49, 50] (by decide +kernel) (by decide +kernel)
set_option maxRecDepth 20000 in
theorem gX4_isWithin_X1_standing : GoodIn wsX4_isWithin (wsV RX4 258 RX1 yX1_standing wsX1_standing) := goodIn_app (goodIn_of _ (by decide +kernel)) ggX4_isWithin_X1_standing
set_option maxRecDepth 20000 in
theorem ggX4_isWithin_X1_customer : GoodIn wsX4_isWithin wsX1_customer := goodIn_r _ [12, 13, 42, 43, 44, 45, 46, 47, 48, 49, 50] (by decide +kernel) (by decide +kernel)
set_option maxRecDepth 20000 in
theorem gX4_isWithin_X1_customer : GoodIn wsX4_isWithin (wsV RX4 336 RX1 yX1_customer wsX1_customer) := goodIn_app (goodIn_of _ (by decide +kernel)) ggX4_isWithin_X1_customer
set_option maxRecDepth 20000 in
theorem ggX4_isWithin_X3_customer : GoodIn wsX4_isWithin wsX3_customer := goodIn_r _ [18, 19, 51, 52, 53, 54, 55, 56, 57, 58, 59] (by decide +kernel) (by decide +kernel)
set_option maxRecDepth 20000 in
theorem gX4_isWithin_X3_customer : GoodIn wsX4_isWithin (wsV RX4 174 RX3 yX3_customer wsX3_customer) := goodIn_app (goodIn_of _ (by decide +kernel)) ggX4_isWithin_X3_customer
set_option maxRecDepth 20000 in
theorem ggX4_isWithin_X1_yard : GoodIn wsX4_isWithin wsX1_yard := goodIn_r _ [23, 24, 42, 43, 44, 45, 46, 47, 48, 49, 50] (by decide +kernel) (by decide +kernel)
set_option maxRecDepth 20000 in
theorem gX4_isWithin_X1_yard : GoodIn wsX4_isWithin (wsV RX4 337 RX1 yX1_yard wsX1_yard) := goodIn_app (goodIn_of _ (by decide +kernel)) ggX4_isWithin_X1_yard
set_option maxRecDepth 20000 in
theorem ggX4_isWithin_X3_yard : GoodIn wsX4_isWithin wsX3_yard := goodIn_r _ [28, 29, 51, 52, 53, 54, 55, 56, 57, 58, 59] (by decide +kernel) (by decide +kernel)
set_option maxRecDepth 20000 in
theorem gX4_isWithin_X3_yard : GoodIn wsX4_isWithin (wsV RX4 168 RX3 yX3_yard wsX3_yard) := goodIn_app (goodIn_of _ (by decide +kernel)) ggX4_isWithin_X3_yard
set_option maxRecDepth 20000 in
theorem ggX4_cutOff_X3_openBooking : GoodIn wsX4_cutOff wsX3_openBooking := goodIn_r _ [8, 9, 42, 43, 44, 45, 46, 47, 48, 49, 50] (by decide +kernel) (by decide +kernel)
set_option maxRecDepth 20000 in
theorem gX4_cutOff_X3_openBooking : GoodIn wsX4_cutOff (wsV RX4 159 RX3 yX3_openBooking wsX3_openBooking) := goodIn_app (goodIn_of _ (by decide +kernel)) ggX4_cutOff_X3_openBooking
set_option maxRecDepth 20000 in
theorem ggX4_cutOff_X3_end : GoodIn wsX4_cutOff wsX3_end := goodIn_r _ [13, 14, 15, 16, 17, 18, 19, 20, 7, 21, 22, 42, 43, 44, 45, 46, 47, 48, 49, 50] (by decide +kernel) (by decide +kernel)
set_option maxRecDepth 20000 in
theorem gX4_cutOff_X3_end : GoodIn wsX4_cutOff (wsV RX4 209 RX3 yX3_end wsX3_end) := goodIn_app (goodIn_of _ (by decide +kernel)) ggX4_cutOff_X3_end
set_option maxRecDepth 20000 in
theorem ggX4_cutOff_X1_halve : GoodIn wsX4_cutOff wsX1_halve := goodIn_r _ [27, 28, 29, 51, 52, 53, 54, 55, 56, 57, 58, 59] (by decide +kernel) (by decide +kernel)
set_option maxRecDepth 20000 in
theorem gX4_cutOff_X1_halve : GoodIn wsX4_cutOff (wsV RX4 338 RX1 yX1_halve wsX1_halve) := goodIn_app (goodIn_of _ (by decide +kernel)) ggX4_cutOff_X1_halve
set_option maxRecDepth 20000 in
theorem ggX4_canDepart_X2_count : GoodIn wsX4_canDepart wsX2_count := goodIn_r _ [7, 8, 47, 48] (by decide +kernel) (by decide +kernel)
set_option maxRecDepth 20000 in
theorem gX4_canDepart_X2_count : GoodIn wsX4_canDepart (wsV RX4 91 RX2 yX2_count wsX2_count) := goodIn_app (goodIn_of _ (by decide +kernel)) ggX4_canDepart_X2_count
set_option maxRecDepth 20000 in
theorem ggX4_canDepart_X2_get : GoodIn wsX4_canDepart wsX2_get := goodIn_r _ [12, 13, 47, 48] (by decide +kernel) (by decide +kernel)
set_option maxRecDepth 20000 in
theorem gX4_canDepart_X2_get : GoodIn wsX4_canDepart (wsV RX4 107 RX2 yX2_get wsX2_get) := goodIn_app (goodIn_of _ (by decide +kernel)) ggX4_canDepart_X2_get
set_option maxRecDepth 20000 in
theorem ggX4_canDepart_X1_bookingFor : GoodIn wsX4_canDepart wsX1_bookingFor := goodIn_r _ [18, 19, 49, 50, 51, 52, 53, 54, 55, 56, 57] (by decide +kernel) (by decide +kernel)
set_option maxRecDepth 20000 in
theorem gX4_canDepart_X1_bookingFor : GoodIn wsX4_canDepart (wsV RX4 130 RX1 yX1_bookingFor wsX1_bookingFor) := goodIn_app (goodIn_of _ (by decide +kernel)) ggX4_canDepart_X1_bookingFor
set_option maxRecDepth 20000 in
theorem ggX4_canDepart_X1_standing : GoodIn wsX4_canDepart wsX1_standing := goodIn_r _ [23, 24, 49, 50, 51, 52, 53, 54, 55, 56, 57] (by decide +kernel) (by decide +kernel)
set_option maxRecDepth 20000 in
theorem gX4_canDepart_X1_standing : GoodIn wsX4_canDepart (wsV RX4 258 RX1 yX1_standing wsX1_standing) := goodIn_app (goodIn_of _ (by decide +kernel)) ggX4_canDepart_X1_standing
set_option maxRecDepth 20000 in
theorem ggX4_canDepart_X4_standsWhole : GoodIn wsX4_canDepart wsX4_standsWhole := goodIn_r _ [29, 1, 2, 3, 4, 5, 6, 7, 8, 9, 10, 11, 12, 13, 14, 15, 16, 17, 18, 19, 30, 31, 32, 33, 34, 35, 36, 37, 38, 39, 40, 41, 42, 43, 44, 45, 46, 47, 48, 49, 50, 51, 52, 53, 54, 55, 56, 57] (by decide +kernel) (by decide +kernel)
set_option maxRecDepth 20000 in
theorem gX4_canDepart_X4_standsWhole : GoodIn wsX4_canDepart (wsV RX4 341 RX4 yX4_standsWhole wsX4_standsWhole) := goodIn_app (goodIn_of _ (by decide +kernel)) ggX4_canDepart_X4_standsWhole
set_option maxRecDepth 20000 in
theorem ggX4_standsWhole_X2_count : GoodIn wsX4_standsWhole wsX2_count := goodIn_r _ [7, 8, 37, 38] (by decide +kernel) (by decide +kernel)
set_option maxRecDepth 20000 in
theorem gX4_standsWhole_X2_count : GoodIn wsX4_standsWhole (wsV RX4 91 RX2 yX2_count wsX2_count) := goodIn_app (goodIn_of _ (by decide +kernel)) ggX4_standsWhole_X2_count
set_option maxRecDepth 20000 in
theorem ggX4_standsWhole_X2_get : GoodIn wsX4_standsWhole wsX2_get := goodIn_r _ [12, 13, 37, 38] (by decide +kernel) (by decide +kernel)
set_option maxRecDepth 20000 in
theorem gX4_standsWhole_X2_get : GoodIn wsX4_standsWhole (wsV RX4 107 RX2 yX2_get wsX2_get) := goodIn_app (goodIn_of _ (by decide +kernel)) ggX4_standsWhole_X2_get
set_option maxRecDepth 20000 in
theorem ggX4_standsWhole_X1_bookingFor : GoodIn wsX4_standsWhole wsX1_bookingFor := goodIn_r _ [18, 19, 39, 40, 41, 42, 43, 44, 45, 46, 47] (by decide +kernel) (by decide +kernel)
set_option maxRecDepth 20000 in
theorem gX4_standsWhole_X1_bookingFor : GoodIn wsX4_standsWhole (wsV RX4 130 RX1 yX1_bookingFor wsX1_bookingFor) := goodIn_app (goodIn_of _ (by decide +kernel)) ggX4_standsWhole_X1_bookingFor
set_option maxRecDepth 20000 in
theorem ggX4_standsWhole_X1_size : GoodIn wsX4_standsWhole wsX1_size := goodIn_r _ [23, 24, 39, 40, 41, 42, 43, 44, 45, 46, 47] (by decide +kernel) (by decide +kernel)
set_option maxRecDepth 20000 in
theorem gX4_standsWhole_X1_size : GoodIn wsX4_standsWhole (wsV RX4 201 RX1 yX1_size wsX1_size) := goodIn_app (goodIn_of _ (by decide +kernel)) ggX4_standsWhole_X1_size
set_option maxRecDepth 20000 in
theorem ggX4_load_X2_count : GoodIn wsX4_load wsX2_count := goodIn_r _ [8, 9, 43, 44] (by decide +kernel) (by decide +kernel)
set_option maxRecDepth 20000 in
theorem gX4_load_X2_count : GoodIn wsX4_load (wsV RX4 91 RX2 yX2_count wsX2_count) := goodIn_app (goodIn_of _ (by decide +kernel)) ggX4_load_X2_count
set_option maxRecDepth 20000 in
theorem ggX4_load_X2_get : GoodIn wsX4_load wsX2_get := goodIn_r _ [13, 14, 43, 44] (by decide +kernel) (by decide +kernel)
set_option maxRecDepth 20000 in
theorem gX4_load_X2_get : GoodIn wsX4_load (wsV RX4 107 RX2 yX2_get wsX2_get) := goodIn_app (goodIn_of _ (by decide +kernel)) ggX4_load_X2_get
set_option maxRecDepth 20000 in
theorem ggX4_load_X1_bookingFor : GoodIn wsX4_load wsX1_bookingFor := goodIn_r _ [19, 20, 45, 46, 47, 48, 49, 50, 51, 52, 53] (by decide +kernel) (by decide +kernel)
set_option maxRecDepth 20000 in
theorem gX4_load_X1_bookingFor : GoodIn wsX4_load (wsV RX4 130 RX1 yX1_bookingFor wsX1_bookingFor) := goodIn_app (goodIn_of _ (by decide +kernel)) ggX4_load_X1_bookingFor
set_option maxRecDepth 20000 in
theorem ggX4_load_X1_grain : GoodIn wsX4_load wsX1_grain := goodIn_r _ [24, 25, 45, 46, 47, 48, 49, 50, 51, 52, 53] (by decide +kernel) (by decide +kernel)
set_option maxRecDepth 20000 in
theorem gX4_load_X1_grain : GoodIn wsX4_load (wsV RX4 163 RX1 yX1_grain wsX1_grain) := goodIn_app (goodIn_of _ (by decide +kernel)) ggX4_load_X1_grain
set_option maxRecDepth 20000 in
theorem ggX4_load_X1_keep : GoodIn wsX4_load wsX1_keep := goodIn_r _ [29, 30, 45, 46, 47, 48, 49, 50, 51, 52, 53] (by decide +kernel) (by decide +kernel)
set_option maxRecDepth 20000 in
theorem gX4_load_X1_keep : GoodIn wsX4_load (wsV RX4 189 RX1 yX1_keep wsX1_keep) := goodIn_app (goodIn_of _ (by decide +kernel)) ggX4_load_X1_keep
set_option maxRecDepth 20000 in
theorem ggX4_unload_X2_count : GoodIn wsX4_unload wsX2_count := goodIn_r _ [7, 8, 43, 44] (by decide +kernel) (by decide +kernel)
set_option maxRecDepth 20000 in
theorem gX4_unload_X2_count : GoodIn wsX4_unload (wsV RX4 91 RX2 yX2_count wsX2_count) := goodIn_app (goodIn_of _ (by decide +kernel)) ggX4_unload_X2_count
set_option maxRecDepth 20000 in
theorem ggX4_unload_X2_get : GoodIn wsX4_unload wsX2_get := goodIn_r _ [12, 13, 43, 44] (by decide +kernel) (by decide +kernel)
set_option maxRecDepth 20000 in
theorem gX4_unload_X2_get : GoodIn wsX4_unload (wsV RX4 107 RX2 yX2_get wsX2_get) := goodIn_app (goodIn_of _ (by decide +kernel)) ggX4_unload_X2_get
set_option maxRecDepth 20000 in
theorem ggX4_unload_X1_bookingFor : GoodIn wsX4_unload wsX1_bookingFor := goodIn_r _ [18, 19, 45, 46, 47, 48, 49, 50, 51, 52, 53] (by decide +kernel) (by decide +kernel)
set_option maxRecDepth 20000 in
theorem gX4_unload_X1_bookingFor : GoodIn wsX4_unload (wsV RX4 130 RX1 yX1_bookingFor wsX1_bookingFor) := goodIn_app (goodIn_of _ (by decide +kernel)) ggX4_unload_X1_bookingFor
set_option maxRecDepth 20000 in
theorem ggX4_unload_X1_release : GoodIn wsX4_unload wsX1_release := goodIn_r _ [23, 24, 25, 19, 26, 27, 28, 17, 29, 30, 45, 46, 47, 48, 49, 50, 51, 52, 53] (by decide +kernel) (by decide +kernel)
set_option maxRecDepth 20000 in
theorem gX4_unload_X1_release : GoodIn wsX4_unload (wsV RX4 206 RX1 yX1_release wsX1_release) := goodIn_app (goodIn_of _ (by decide +kernel)) ggX4_unload_X1_release
