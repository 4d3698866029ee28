set_option maxRecDepth 20000 in
theorem ggX5_isYard_X5_in : GoodIn wsX5_isYard wsX5_in := goodIn_r _ [4] (by decide +kernel) (by decide +kernel)
set_option maxRecDepth 20000 in
theorem gX5_isYard_X5_in : GoodIn wsX5_isYard (va_wsS RX5 84 yX5_in wsX5_in) := goodIn_app (goodIn_of _ (by decide +kernel)) ggX5_isYard_X5_in
set_option maxRecDepth 20000 in
theorem ggX5_isTrack_X5_isYard : GoodIn wsX5_isTrack wsX5_isYard := goodIn_r _ [4, 5, 6, 3, 7] (by decide +kernel) (by decide +kernel)
set_option maxRecDepth 20000 in
theorem gX5_isTrack_X5_isYard : GoodIn wsX5_isTrack (va_wsS RX5 88 yX5_isYard wsX5_isYard) := goodIn_app (goodIn_of _ (by decide +kernel)) ggX5_isTrack_X5_isYard
set_option maxRecDepth 20000 in
theorem ggX5_isTrack_X5_in : GoodIn wsX5_isTrack wsX5_in := goodIn_r _ [7] (by decide +kernel) (by decide +kernel)
set_option maxRecDepth 20000 in
theorem gX5_isTrack_X5_in : GoodIn wsX5_isTrack (va_wsS RX5 84 yX5_in wsX5_in) := goodIn_app (goodIn_of _ (by decide +kernel)) ggX5_isTrack_X5_in
set_option maxRecDepth 20000 in
theorem ggX5_isGrain_X5_in : GoodIn wsX5_isGrain wsX5_in := goodIn_r _ [4] (by decide +kernel) (by decide +kernel)
set_option maxRecDepth 20000 in
theorem gX5_isGrain_X5_in : GoodIn wsX5_isGrain (va_wsS RX5 84 yX5_in wsX5_in) := goodIn_app (goodIn_of _ (by decide +kernel)) ggX5_isGrain_X5_in
set_option maxRecDepth 20000 in
theorem ggX5_isWagon_X5_in : GoodIn wsX5_isWagon wsX5_in := goodIn_r _ [5] (by decide +kernel) (by decide +kernel)
set_option maxRecDepth 20000 in
theorem gX5_isWagon_X5_in : GoodIn wsX5_isWagon (va_wsS RX5 84 yX5_in wsX5_in) := goodIn_app (goodIn_of _ (by decide +kernel)) ggX5_isWagon_X5_in
set_option maxRecDepth 20000 in
theorem ggX5_wagon_X5_isTrack : GoodIn wsX5_wagon wsX5_isTrack := goodIn_r _ [9, 10, 11, 8, 12, 13, 14, 15] (by decide +kernel) (by decide +kernel)
set_option maxRecDepth 20000 in
theorem gX5_wagon_X5_isTrack : GoodIn wsX5_wagon (va_wsS RX5 95 yX5_isTrack wsX5_isTrack) := goodIn_app (goodIn_of _ (by decide +kernel)) ggX5_wagon_X5_isTrack
set_option maxRecDepth 20000 in
theorem ggX5_wagon_X5_puts : GoodIn wsX5_wagon wsX5_puts := goodIn_r _ [19, 20, 2, 21, 22, 23, 24, 25, 26, 27, 28, 29, 30, 31, 32, 33, 34, 35, 36, 37, 38, 39, 40, 41, 42, 43, 44, 45, 46, 47, 48, 49, 50, 51] (by decide +kernel) (by decide +kernel)
set_option maxRecDepth 20000 in
theorem gX5_wagon_X5_puts : GoodIn wsX5_wagon (wsV RX5 99 RX5 yX5_puts wsX5_puts) := goodIn_app (goodIn_of _ (by decide +kernel)) ggX5_wagon_X5_puts
set_option maxRecDepth 20000 in
theorem ggX5_shunt_X5_isTrack : GoodIn wsX5_shunt wsX5_isTrack := goodIn_r _ [7, 8, 9, 6, 10, 11, 12, 13] (by decide +kernel) (by decide +kernel)
set_option maxRecDepth 20000 in
theorem gX5_shunt_X5_isTrack : GoodIn wsX5_shunt (va_wsS RX5 95 yX5_isTrack wsX5_isTrack) := goodIn_app (goodIn_of _ (by decide +kernel)) ggX5_shunt_X5_isTrack
set_option maxRecDepth 20000 in
theorem ggX5_shunt_X5_in : GoodIn wsX5_shunt wsX5_in := goodIn_r _ [13] (by decide +kernel) (by decide +kernel)
set_option maxRecDepth 20000 in
theorem gX5_shunt_X5_in : GoodIn wsX5_shunt (va_wsS RX5 84 yX5_in wsX5_in) := goodIn_app (goodIn_of _ (by decide +kernel)) ggX5_shunt_X5_in
set_option maxRecDepth 20000 in
theorem ggX5_shunt_X5_puts : GoodIn wsX5_shunt wsX5_puts := goodIn_r _ [17, 3, 1, 18, 19, 20, 21, 22, 23, 24, 25, 26, 27, 28, 29, 30, 31, 32, 33, 34, 35, 36, 37, 38, 39, 40, 41, 42, 43, 44, 45, 46, 47, 48] (by decide +kernel) (by decide +kernel)
set_option maxRecDepth 20000 in
theorem gX5_shunt_X5_puts : GoodIn wsX5_shunt (wsV RX5 99 RX5 yX5_puts wsX5_puts) := goodIn_app (goodIn_of _ (by decide +kernel)) ggX5_shunt_X5_puts
set_option maxRecDepth 20000 in
theorem ggX5_wash_X5_isYard : GoodIn wsX5_wash wsX5_isYard := goodIn_r _ [8, 9, 10, 7, 11] (by decide +kernel) (by decide +kernel)
set_option maxRecDepth 20000 in
theorem gX5_wash_X5_isYard : GoodIn wsX5_wash (va_wsS RX5 88 yX5_isYard wsX5_isYard) := goodIn_app (goodIn_of _ (by decide +kernel)) ggX5_wash_X5_isYard
set_option maxRecDepth 20000 in
theorem ggX5_follow_X5_isGrain : GoodIn wsX5_follow wsX5_isGrain := goodIn_r _ [6, 7, 8, 5, 9] (by decide +kernel) (by decide +kernel)
set_option maxRecDepth 20000 in
theorem gX5_follow_X5_isGrain : GoodIn wsX5_follow (va_wsS RX5 103 yX5_isGrain wsX5_isGrain) := goodIn_app (goodIn_of _ (by decide +kernel)) ggX5_follow_X5_isGrain
set_option maxRecDepth 20000 in
theorem ggX5_on_X5_isTrack : GoodIn wsX5_on wsX5_isTrack := goodIn_r _ [6, 7, 8, 5, 9, 10, 11, 12] (by decide +kernel) (by decide +kernel)
set_option maxRecDepth 20000 in
theorem gX5_on_X5_isTrack : GoodIn wsX5_on (va_wsS RX5 95 yX5_isTrack wsX5_isTrack) := goodIn_app (goodIn_of _ (by decide +kernel)) ggX5_on_X5_isTrack
set_option maxRecDepth 20000 in
theorem ggX5_wagonAt_X5_isTrack : GoodIn wsX5_wagonAt wsX5_isTrack := goodIn_r _ [7, 8, 9, 6, 10, 11, 12, 13] (by decide +kernel) (by decide +kernel)
set_option maxRecDepth 20000 in
theorem gX5_wagonAt_X5_isTrack : GoodIn wsX5_wagonAt (va_wsS RX5 95 yX5_isTrack wsX5_isTrack) := goodIn_app (goodIn_of _ (by decide +kernel)) ggX5_wagonAt_X5_isTrack
set_option maxRecDepth 20000 in
theorem ggX5_wagonAt_X5_in : GoodIn wsX5_wagonAt wsX5_in := goodIn_r _ [13] (by decide +kernel) (by decide +kernel)
set_option maxRecDepth 20000 in
theorem gX5_wagonAt_X5_in : GoodIn wsX5_wagonAt (va_wsS RX5 84 yX5_in wsX5_in) := goodIn_app (goodIn_of _ (by decide +kernel)) ggX5_wagonAt_X5_in
set_option maxRecDepth 20000 in
theorem ggX5_at_X5_wagonAt : GoodIn wsX5_at wsX5_wagonAt := goodIn_r _ [5, 6, 7, 8, 9, 10, 4, 11, 12, 13, 14, 15, 16, 17, 18, 19, 20, 21, 22, 23, 24, 25, 26, 27, 28, 29, 30, 31, 32, 33, 34, 35, 36, 37, 38, 39, 40, 41, 42, 43, 44, 45, 46, 47] (by decide +kernel) (by decide +kernel)
set_option maxRecDepth 20000 in
theorem gX5_at_X5_wagonAt : GoodIn wsX5_at (wsV RX5 106 RX5 yX5_wagonAt wsX5_wagonAt) := goodIn_app (goodIn_of _ (by decide +kernel)) ggX5_at_X5_wagonAt
set_option maxRecDepth 20000 in
theorem ggX5_atByReplay_X5_wagonAt : GoodIn wsX5_atByReplay wsX5_wagonAt := goodIn_r _ [5, 6, 7, 8, 9, 10, 4, 11, 12, 13, 14, 15, 16, 17, 18, 19, 20, 21, 22, 23, 24, 25, 26, 27, 28, 29, 30, 31, 32, 33, 34, 35, 36, 37, 38, 39, 40, 41, 42, 43, 44, 45, 46, 47] (by decide +kernel) (by decide +kernel)
set_option maxRecDepth 20000 in
theorem gX5_atByReplay_X5_wagonAt : GoodIn wsX5_atByReplay (wsV RX5 106 RX5 yX5_wagonAt wsX5_wagonAt) := goodIn_app (goodIn_of _ (by decide +kernel)) ggX5_atByReplay_X5_wagonAt
set_option maxRecDepth 20000 in
theorem ggX5_asksWagon_X5_isWagon : GoodIn wsX5_asksWagon wsX5_isWagon := goodIn_r _ [6, 7, 8, 9, 5, 10, 11, 12, 13, 14, 15, 16, 17, 18, 19, 20, 21, 22, 23, 24, 25, 26, 27, 28, 29, 30, 31, 32, 33, 34, 35, 36, 37, 38, 39, 40] (by decide +kernel) (by decide +kernel)
set_option maxRecDepth 20000 in
theorem gX5_asksWagon_X5_isWagon : GoodIn wsX5_asksWagon (wsV RX5 110 RX5 yX5_isWagon wsX5_isWagon) := goodIn_app (goodIn_of _ (by decide +kernel)) ggX5_asksWagon_X5_isWagon
set_option maxRecDepth 20000 in
theorem ggX5_where_X5_asksWagon : GoodIn wsX5_where wsX5_asksWagon := goodIn_r _ [6, 7, 8, 9, 10, 5, 11, 12, 13, 14, 15, 16, 17, 18, 19, 20, 21, 22, 23, 24, 25, 26, 27, 28, 29, 30, 31, 32, 33, 34, 35, 36, 37, 38, 39, 40, 41, 42, 43, 44, 45] (by decide +kernel) (by decide +kernel)
set_option maxRecDepth 20000 in
theorem gX5_where_X5_asksWagon : GoodIn wsX5_where (wsV RX5 113 RX5 yX5_asksWagon wsX5_asksWagon) := goodIn_app (goodIn_of _ (by decide +kernel)) ggX5_where_X5_asksWagon
set_option maxRecDepth 20000 in
theorem ggX5_carried_X5_asksWagon : GoodIn wsX5_carried wsX5_asksWagon := goodIn_r _ [6, 7, 8, 9, 10, 5, 11, 12, 13, 14, 15, 16, 17, 18, 19, 20, 21, 22, 23, 24, 25, 26, 27, 28, 29, 30, 31, 32, 33, 34, 35, 36, 37, 38, 39, 40, 41, 42, 43, 44, 45] (by decide +kernel) (by decide +kernel)
set_option maxRecDepth 20000 in
theorem gX5_carried_X5_asksWagon : GoodIn wsX5_carried (wsV RX5 113 RX5 yX5_asksWagon wsX5_asksWagon) := goodIn_app (goodIn_of _ (by decide +kernel)) ggX5_carried_X5_asksWagon
set_option maxRecDepth 20000 in
theorem ggX5_promised_X5_asksWagon : GoodIn wsX5_promised wsX5_asksWagon := goodIn_r _ [6, 7, 8, 9, 10, 5, 11, 12, 13, 14, 15, 21, 22, 23, 24, 25, 26, 27, 28, 29, 30, 31, 32, 33, 34, 35, 36, 37, 38, 39, 40, 41, 42, 43, 44, 45, 46, 47, 48, 49, 50] (by decide +kernel) (by decide +kernel)
set_option maxRecDepth 20000 in
theorem gX5_promised_X5_asksWagon : GoodIn wsX5_promised (wsV RX5 113 RX5 yX5_asksWagon wsX5_asksWagon) := goodIn_app (goodIn_of _ (by decide +kernel)) ggX5_promised_X5_asksWagon
set_option maxRecDepth 20000 in
theorem ggX5_promised_X5_isPromised : GoodIn wsX5_promised wsX5_isPromised := goodIn_r _ [19, 1, 20, 21, 22, 23, 24, 25, 26, 27, 28, 29, 30, 31, 32, 33, 34, 35, 36, 37, 38, 39, 40, 41, 42, 43, 44, 45, 46, 47, 48, 49, 50] (by decide +kernel) (by decide +kernel)
set_option maxRecDepth 20000 in
theorem gX5_promised_X5_isPromised : GoodIn wsX5_promised (wsV RX5 116 RX5 yX5_isPromised wsX5_isPromised) := goodIn_app (goodIn_of _ (by decide +kernel)) ggX5_promised_X5_isPromised
set_option maxRecDepth 20000 in
theorem ggX5_isCall_X5_in : GoodIn wsX5_isCall wsX5_in := goodIn_r _ [5] (by decide +kernel) (by decide +kernel)
set_option maxRecDepth 20000 in
theorem gX5_isCall_X5_in : GoodIn wsX5_isCall (va_wsS RX5 84 yX5_in wsX5_in) := goodIn_app (goodIn_of _ (by decide +kernel)) ggX5_isCall_X5_in
set_option maxRecDepth 20000 in
theorem ggX5_isBooking_X5_in : GoodIn wsX5_isBooking wsX5_in := goodIn_r _ [5] (by decide +kernel) (by decide +kernel)
set_option maxRecDepth 20000 in
theorem gX5_isBooking_X5_in : GoodIn wsX5_isBooking (va_wsS RX5 84 yX5_in wsX5_in) := goodIn_app (goodIn_of _ (by decide +kernel)) ggX5_isBooking_X5_in
set_option maxRecDepth 20000 in
theorem ggX5_freeBetween_X5_between : GoodIn wsX5_freeBetween wsX5_between := goodIn_r _ [5] (by decide +kernel) (by decide +kernel)
set_option maxRecDepth 20000 in
theorem gX5_freeBetween_X5_between : GoodIn wsX5_freeBetween (va_wsS RX5 125 yX5_between wsX5_between) := goodIn_app (goodIn_of _ (by decide +kernel)) ggX5_freeBetween_X5_between
set_option maxRecDepth 20000 in
theorem ggX5_takesWay_X5_freeBetween : GoodIn wsX5_takesWay wsX5_freeBetween := goodIn_r _ [7, 1, 8, 9, 6, 10, 11, 12, 13, 14, 15, 16, 17, 18, 19, 20, 21, 22, 23, 24, 25, 26, 27, 28, 29, 30, 31, 32, 33, 34, 35, 36, 37, 38, 39, 40] (by decide +kernel) (by decide +kernel)
set_option maxRecDepth 20000 in
theorem gX5_takesWay_X5_freeBetween : GoodIn wsX5_takesWay (wsV RX5 129 RX5 yX5_freeBetween wsX5_freeBetween) := goodIn_app (goodIn_of _ (by decide +kernel)) ggX5_takesWay_X5_freeBetween
set_option maxRecDepth 20000 in
theorem ggX5_call_X5_in : GoodIn wsX5_call wsX5_in := goodIn_r _ [12] (by decide +kernel) (by decide +kernel)
set_option maxRecDepth 20000 in
theorem gX5_call_X5_in : GoodIn wsX5_call (va_wsS RX5 84 yX5_in wsX5_in) := goodIn_app (goodIn_of _ (by decide +kernel)) ggX5_call_X5_in
set_option maxRecDepth 20000 in
theorem ggX5_call_X5_isYard : GoodIn wsX5_call wsX5_isYard := goodIn_r _ [15, 9, 10, 11, 12] (by decide +kernel) (by decide +kernel)
set_option maxRecDepth 20000 in
theorem gX5_call_X5_isYard : GoodIn wsX5_call (va_wsS RX5 88 yX5_isYard wsX5_isYard) := goodIn_app (goodIn_of _ (by decide +kernel)) ggX5_call_X5_isYard
set_option maxRecDepth 20000 in
theorem ggX5_call_X5_callNow : GoodIn wsX5_call wsX5_callNow := goodIn_r _ [19, 1, 7, 5, 36, 37, 38, 39, 40, 41, 42, 43, 44, 45, 46, 47, 48, 49, 50, 51, 52, 53, 54, 55, 56, 57, 58, 59, 60, 61, 62, 63, 64, 65] (by decide +kernel) (by decide +kernel)
set_option maxRecDepth 20000 in
theorem gX5_call_X5_callNow : GoodIn wsX5_call (wsV RX5 132 RX5 yX5_callNow wsX5_callNow) := goodIn_app (goodIn_of _ (by decide +kernel)) ggX5_call_X5_callNow
set_option maxRecDepth 20000 in
theorem ggX5_call_X5_callsTo : GoodIn wsX5_call wsX5_callsTo := goodIn_r _ [23, 1, 7, 6, 36, 37, 38, 39, 40, 41, 42, 43, 44, 45, 46, 47, 48, 49, 50, 51, 52, 53, 54, 55, 56, 57, 58, 59, 60, 61, 62, 63, 64, 65] (by decide +kernel) (by decide +kernel)
set_option maxRecDepth 20000 in
theorem gX5_call_X5_callsTo : GoodIn wsX5_call (wsV RX5 136 RX5 yX5_callsTo wsX5_callsTo) := goodIn_app (goodIn_of _ (by decide +kernel)) ggX5_call_X5_callsTo
set_option maxRecDepth 20000 in
theorem ggX5_call_X5_takesWay : GoodIn wsX5_call wsX5_takesWay := goodIn_r _ [27, 28, 1, 29, 30, 31, 11, 32, 33, 34, 35, 36, 37, 38, 39, 40, 41, 42, 43, 44, 45, 46, 47, 48, 49, 50, 51, 52, 53, 54, 55, 56, 57, 58, 59, 60, 61, 62, 63, 64, 65] (by decide +kernel) (by decide +kernel)
set_option maxRecDepth 20000 in
theorem gX5_call_X5_takesWay : GoodIn wsX5_call (wsV RX5 139 RX5 yX5_takesWay wsX5_takesWay) := goodIn_app (goodIn_of _ (by decide +kernel)) ggX5_call_X5_takesWay
set_option maxRecDepth 20000 in
theorem ggX5_finds_X5_isPromised : GoodIn wsX5_finds wsX5_isPromised := goodIn_r _ [7, 8, 9, 16, 17, 18, 19, 20, 21, 22, 23, 24, 25, 26, 27, 28, 29, 30, 31, 32, 33, 34, 35, 36, 37, 38, 39, 40, 41, 42, 43, 44, 45] (by decide +kernel) (by decide +kernel)
set_option maxRecDepth 20000 in
theorem gX5_finds_X5_isPromised : GoodIn wsX5_finds (wsV RX5 116 RX5 yX5_isPromised wsX5_isPromised) := goodIn_app (goodIn_of _ (by decide +kernel)) ggX5_finds_X5_isPromised
set_option maxRecDepth 20000 in
theorem ggX5_finds_X5_fits : GoodIn wsX5_finds wsX5_fits := goodIn_r _ [13, 14, 15, 16, 17, 18, 19, 20, 21, 22, 23, 24, 25, 26, 27, 28, 29, 30, 31, 32, 33, 34, 35, 36, 37, 38, 39, 40, 41, 42, 43, 44, 45] (by decide +kernel) (by decide +kernel)
set_option maxRecDepth 20000 in
theorem gX5_finds_X5_fits : GoodIn wsX5_finds (wsV RX5 145 RX5 yX5_fits wsX5_fits) := goodIn_app (goodIn_of _ (by decide +kernel)) ggX5_finds_X5_fits
set_option maxRecDepth 20000 in
theorem ggX5_ask_X5_isCall : GoodIn wsX5_ask wsX5_isCall := goodIn_r _ [16, 17, 18, 19, 15, 20, 46, 47, 48, 49, 50, 51, 52, 53, 54, 55, 56, 57, 58, 59, 60, 61, 62, 63, 64, 65, 66, 67, 68, 69, 70, 71, 72, 73, 74, 75] (by decide +kernel) (by decide +kernel)
set_option maxRecDepth 20000 in
theorem gX5_ask_X5_isCall : GoodIn wsX5_ask (wsV RX5 148 RX5 yX5_isCall wsX5_isCall) := goodIn_app (goodIn_of _ (by decide +kernel)) ggX5_ask_X5_isCall
set_option maxRecDepth 20000 in
theorem ggX5_ask_X5_isGrain : GoodIn wsX5_ask wsX5_isGrain := goodIn_r _ [23, 18, 19, 15, 20] (by decide +kernel) (by decide +kernel)
set_option maxRecDepth 20000 in
theorem gX5_ask_X5_isGrain : GoodIn wsX5_ask (va_wsS RX5 103 yX5_isGrain wsX5_isGrain) := goodIn_app (goodIn_of _ (by decide +kernel)) ggX5_ask_X5_isGrain
set_option maxRecDepth 20000 in
theorem ggX5_ask_X5_finds : GoodIn wsX5_ask wsX5_finds := goodIn_r _ [27, 28, 29, 30, 31, 32, 15, 33, 34, 7, 35, 36, 37, 38, 39, 40, 46, 47, 48, 49, 50, 51, 52, 53, 54, 55, 56, 57, 58, 59, 60, 61, 62, 63, 64, 65, 66, 67, 68, 69, 70, 71, 72, 73, 74, 75] (by decide +kernel) (by decide +kernel)
set_option maxRecDepth 20000 in
theorem gX5_ask_X5_finds : GoodIn wsX5_ask (wsV RX5 151 RX5 yX5_finds wsX5_finds) := goodIn_app (goodIn_of _ (by decide +kernel)) ggX5_ask_X5_finds
set_option maxRecDepth 20000 in
theorem ggX5_ask_X5_adds : GoodIn wsX5_ask wsX5_adds := goodIn_r _ [44, 45, 11, 34, 46, 47, 48, 49, 50, 51, 52, 53, 54, 55, 56, 57, 58, 59, 60, 61, 62, 63, 64, 65, 66, 67, 68, 69, 70, 71, 72, 73, 74, 75] (by decide +kernel) (by decide +kernel)
set_option maxRecDepth 20000 in
theorem gX5_ask_X5_adds : GoodIn wsX5_ask (wsV RX5 154 RX5 yX5_adds wsX5_adds) := goodIn_app (goodIn_of _ (by decide +kernel)) ggX5_ask_X5_adds
set_option maxRecDepth 20000 in
theorem ggX5_confirm_X5_isCall : GoodIn wsX5_confirm wsX5_isCall := goodIn_r _ [9, 10, 11, 12, 8, 13, 14, 15, 16, 17, 18, 19, 20, 21, 22, 23, 24, 25, 26, 27, 28, 29, 30, 31, 32, 33, 34, 35, 36, 37, 38, 39, 40, 41, 42, 43] (by decide +kernel) (by decide +kernel)
set_option maxRecDepth 20000 in
theorem gX5_confirm_X5_isCall : GoodIn wsX5_confirm (wsV RX5 148 RX5 yX5_isCall wsX5_isCall) := goodIn_app (goodIn_of _ (by decide +kernel)) ggX5_confirm_X5_isCall
set_option maxRecDepth 20000 in
theorem ggX5_resume_X5_isCall : GoodIn wsX5_resume wsX5_isCall := goodIn_r _ [10, 11, 12, 13, 9, 14, 28, 29, 30, 31, 32, 33, 34, 35, 36, 37, 38, 39, 40, 41, 42, 43, 44, 45, 46, 47, 48, 49, 50, 51, 52, 53, 54, 55, 56, 57] (by decide +kernel) (by decide +kernel)
set_option maxRecDepth 20000 in
theorem gX5_resume_X5_isCall : GoodIn wsX5_resume (wsV RX5 148 RX5 yX5_isCall wsX5_isCall) := goodIn_app (goodIn_of _ (by decide +kernel)) ggX5_resume_X5_isCall
set_option maxRecDepth 20000 in
theorem ggX5_resume_X5_isBooking : GoodIn wsX5_resume wsX5_isBooking := goodIn_r _ [18, 19, 12, 13, 9, 14, 28, 29, 30, 31, 32, 33, 34, 35, 36, 37, 38, 39, 40, 41, 42, 43, 44, 45, 46, 47, 48, 49, 50, 51, 52, 53, 54, 55, 56, 57] (by decide +kernel) (by decide +kernel)
set_option maxRecDepth 20000 in
theorem gX5_resume_X5_isBooking : GoodIn wsX5_resume (wsV RX5 158 RX5 yX5_isBooking wsX5_isBooking) := goodIn_app (goodIn_of _ (by decide +kernel)) ggX5_resume_X5_isBooking
set_option maxRecDepth 20000 in
theorem ggX5_resume_X5_isOf : GoodIn wsX5_resume wsX5_isOf := goodIn_r _ [23, 24, 25, 26, 27, 28, 29, 30, 31, 32, 33, 34, 35, 36, 37, 38, 39, 40, 41, 42, 43, 44, 45, 46, 47, 48, 49, 50, 51, 52, 53, 54, 55, 56, 57] (by decide +kernel) (by decide +kernel)
set_option maxRecDepth 20000 in
theorem gX5_resume_X5_isOf : GoodIn wsX5_resume (wsV RX5 161 RX5 yX5_isOf wsX5_isOf) := goodIn_app (goodIn_of _ (by decide +kernel)) ggX5_resume_X5_isOf
set_option maxRecDepth 20000 in
theorem ggX5_cancel_X5_isCall : GoodIn wsX5_cancel wsX5_isCall := goodIn_r _ [9, 10, 11, 12, 8, 13, 27, 28, 29, 30, 31, 32, 33, 34, 35, 36, 37, 38, 39, 40, 41, 42, 43, 44, 45, 46, 47, 48, 49, 50, 51, 52, 53, 54, 55, 56] (by decide +kernel) (by decide +kernel)
set_option maxRecDepth 20000 in
theorem gX5_cancel_X5_isCall : GoodIn wsX5_cancel (wsV RX5 148 RX5 yX5_isCall wsX5_isCall) := goodIn_app (goodIn_of _ (by decide +kernel)) ggX5_cancel_X5_isCall
set_option maxRecDepth 20000 in
theorem ggX5_cancel_X5_isBooking : GoodIn wsX5_cancel wsX5_isBooking := goodIn_r _ [17, 18, 11, 12, 8, 13, 27, 28, 29, 30, 31, 32, 33, 34, 35, 36, 37, 38, 39, 40, 41, 42, 43, 44, 45, 46, 47, 48, 49, 50, 51, 52, 53, 54, 55, 56] (by decide +kernel) (by decide +kernel)
set_option maxRecDepth 20000 in
theorem gX5_cancel_X5_isBooking : GoodIn wsX5_cancel (wsV RX5 158 RX5 yX5_isBooking wsX5_isBooking) := goodIn_app (goodIn_of _ (by decide +kernel)) ggX5_cancel_X5_isBooking
set_option maxRecDepth 20000 in
theorem ggX5_cancel_X5_isOf : GoodIn wsX5_cancel wsX5_isOf := goodIn_r _ [22, 23, 24, 25, 26, 27, 28, 29, 30, 31, 32, 33, 34, 35, 36, 37, 38, 39, 40, 41, 42, 43, 44, 45, 46, 47, 48, 49, 50, 51, 52, 53, 54, 55, 56] (by decide +kernel) (by decide +kernel)
set_option maxRecDepth 20000 in
theorem gX5_cancel_X5_isOf : GoodIn wsX5_cancel (wsV RX5 161 RX5 yX5_isOf wsX5_isOf) := goodIn_app (goodIn_of _ (by decide +kernel)) ggX5_cancel_X5_isOf
set_option maxRecDepth 20000 in
theorem ggX5_hangUp_X5_isCall : GoodIn wsX5_hangUp wsX5_isCall := goodIn_r _ [10, 11, 12, 13, 9, 14, 20, 21, 22, 23, 24, 25, 26, 27, 28, 29, 30, 31, 32, 33, 34, 35, 36, 37, 38, 39, 40, 41, 42, 43, 44, 45, 46, 47, 48, 49] (by decide +kernel) (by decide +kernel)
set_option maxRecDepth 20000 in
theorem gX5_hangUp_X5_isCall : GoodIn wsX5_hangUp (wsV RX5 148 RX5 yX5_isCall wsX5_isCall) := goodIn_app (goodIn_of _ (by decide +kernel)) ggX5_hangUp_X5_isCall
set_option maxRecDepth 20000 in
theorem ggX5_hangUp_X5_ends : GoodIn wsX5_hangUp wsX5_ends := goodIn_r _ [18, 1, 19, 20, 21, 22, 23, 24, 25, 26, 27, 28, 29, 30, 31, 32, 33, 34, 35, 36, 37, 38, 39, 40, 41, 42, 43, 44, 45, 46, 47, 48, 49] (by decide +kernel) (by decide +kernel)
set_option maxRecDepth 20000 in
theorem gX5_hangUp_X5_ends : GoodIn wsX5_hangUp (wsV RX5 164 RX5 yX5_ends wsX5_ends) := goodIn_app (goodIn_of _ (by decide +kernel)) ggX5_hangUp_X5_ends
set_option maxRecDepth 20000 in
theorem ggX5_callOf_X5_in : GoodIn wsX5_callOf wsX5_in := goodIn_r _ [5] (by decide +kernel) (by decide +kernel)
set_option maxRecDepth 20000 in
theorem gX5_callOf_X5_in : GoodIn wsX5_callOf (va_wsS RX5 84 yX5_in wsX5_in) := goodIn_app (goodIn_of _ (by decide +kernel)) ggX5_callOf_X5_in
set_option maxRecDepth 20000 in
theorem ggX5_callOf_X5_callNow : GoodIn wsX5_callOf wsX5_callNow := goodIn_r _ [9, 10, 11, 12, 13, 14, 15, 16, 17, 18, 19, 20, 21, 22, 23, 24, 25, 26, 27, 28, 29, 30, 31, 32, 33, 34, 35, 36, 37, 38, 39, 40, 41, 42] (by decide +kernel) (by decide +kernel)
set_option maxRecDepth 20000 in
theorem gX5_callOf_X5_callNow : GoodIn wsX5_callOf (wsV RX5 132 RX5 yX5_callNow wsX5_callNow) := goodIn_app (goodIn_of _ (by decide +kernel)) ggX5_callOf_X5_callNow
set_option maxRecDepth 20000 in
theorem ggX5_way_X5_isCall : GoodIn wsX5_way wsX5_isCall := goodIn_r _ [8, 9, 10, 11, 7, 12, 13, 14, 15, 16, 17, 18, 19, 20, 21, 22, 23, 24, 25, 26, 27, 28, 29, 30, 31, 32, 33, 34, 35, 36, 37, 38, 39, 40, 41, 42] (by decide +kernel) (by decide +kernel)
set_option maxRecDepth 20000 in
theorem gX5_way_X5_isCall : GoodIn wsX5_way (wsV RX5 148 RX5 yX5_isCall wsX5_isCall) := goodIn_app (goodIn_of _ (by decide +kernel)) ggX5_way_X5_isCall
set_option maxRecDepth 20000 in
theorem ggX5_isTrunk_X5_isYard : GoodIn wsX5_isTrunk wsX5_isYard := goodIn_r _ [4, 5, 6, 3, 7] (by decide +kernel) (by decide +kernel)
set_option maxRecDepth 20000 in
theorem gX5_isTrunk_X5_isYard : GoodIn wsX5_isTrunk (va_wsS RX5 88 yX5_isYard wsX5_isYard) := goodIn_app (goodIn_of _ (by decide +kernel)) ggX5_isTrunk_X5_isYard
set_option maxRecDepth 20000 in
theorem ggX5_isTrunk_X5_in : GoodIn wsX5_isTrunk wsX5_in := goodIn_r _ [7] (by decide +kernel) (by decide +kernel)
set_option maxRecDepth 20000 in
theorem gX5_isTrunk_X5_in : GoodIn wsX5_isTrunk (va_wsS RX5 84 yX5_in wsX5_in) := goodIn_app (goodIn_of _ (by decide +kernel)) ggX5_isTrunk_X5_in
set_option maxRecDepth 20000 in
theorem ggX5_cut_X5_isTrunk : GoodIn wsX5_cut wsX5_isTrunk := goodIn_r _ [10, 11, 12, 9, 13, 14, 15, 16] (by decide +kernel) (by decide +kernel)
set_option maxRecDepth 20000 in
theorem gX5_cut_X5_isTrunk : GoodIn wsX5_cut (va_wsS RX5 168 yX5_isTrunk wsX5_isTrunk) := goodIn_app (goodIn_of _ (by decide +kernel)) ggX5_cut_X5_isTrunk
set_option maxRecDepth 20000 in
theorem ggX5_cut_X5_between : GoodIn wsX5_cut wsX5_between := goodIn_r _ [19] (by decide +kernel) (by decide +kernel)
set_option maxRecDepth 20000 in
theorem gX5_cut_X5_between : GoodIn wsX5_cut (va_wsS RX5 125 yX5_between wsX5_between) := goodIn_app (goodIn_of _ (by decide +kernel)) ggX5_cut_X5_between
set_option maxRecDepth 20000 in
theorem ggX5_cut_X5_ends : GoodIn wsX5_cut wsX5_ends := goodIn_r _ [23, 24, 1, 25, 26, 27, 28, 29, 30, 31, 32, 33, 34, 35, 36, 37, 38, 39, 40, 41, 42, 43, 44, 45, 46, 47, 48, 49, 50, 51, 52, 53, 54] (by decide +kernel) (by decide +kernel)
set_option maxRecDepth 20000 in
theorem gX5_cut_X5_ends : GoodIn wsX5_cut (wsV RX5 164 RX5 yX5_ends wsX5_ends) := goodIn_app (goodIn_of _ (by decide +kernel)) ggX5_cut_X5_ends
set_option maxRecDepth 20000 in
theorem ggX5_mend_X5_isTrunk : GoodIn wsX5_mend wsX5_isTrunk := goodIn_r _ [6, 7, 8, 5, 9, 10, 11, 12] (by decide +kernel) (by decide +kernel)
set_option maxRecDepth 20000 in
theorem gX5_mend_X5_isTrunk : GoodIn wsX5_mend (va_wsS RX5 168 yX5_isTrunk wsX5_isTrunk) := goodIn_app (goodIn_of _ (by decide +kernel)) ggX5_mend_X5_isTrunk
set_option maxRecDepth 20000 in
theorem ggX5_mend_X5_between : GoodIn wsX5_mend wsX5_between := goodIn_r _ [15] (by decide +kernel) (by decide +kernel)
set_option maxRecDepth 20000 in
theorem gX5_mend_X5_between : GoodIn wsX5_mend (va_wsS RX5 125 yX5_between wsX5_between) := goodIn_app (goodIn_of _ (by decide +kernel)) ggX5_mend_X5_between
set_option maxRecDepth 20000 in
theorem ggX5_trunk_X5_isTrunk : GoodIn wsX5_trunk wsX5_isTrunk := goodIn_r _ [6, 7, 8, 5, 9, 10, 11, 12] (by decide +kernel) (by decide +kernel)
set_option maxRecDepth 20000 in
theorem gX5_trunk_X5_isTrunk : GoodIn wsX5_trunk (va_wsS RX5 168 yX5_isTrunk wsX5_isTrunk) := goodIn_app (goodIn_of _ (by decide +kernel)) ggX5_trunk_X5_isTrunk
set_option maxRecDepth 20000 in
theorem ggX5_trunk_X5_between : GoodIn wsX5_trunk wsX5_between := goodIn_r _ [15] (by decide +kernel) (by decide +kernel)
set_option maxRecDepth 20000 in
theorem gX5_trunk_X5_between : GoodIn wsX5_trunk (va_wsS RX5 125 yX5_between wsX5_between) := goodIn_app (goodIn_of _ (by decide +kernel)) ggX5_trunk_X5_between
set_option maxRecDepth 20000 in
theorem ggX5_setLines_X5_isYard : GoodIn wsX5_setLines wsX5_isYard := goodIn_r _ [6, 7, 8, 5, 9] (by decide +kernel) (by decide +kernel)
set_option maxRecDepth 20000 in
theorem gX5_setLines_X5_isYard : GoodIn wsX5_setLines (va_wsS RX5 88 yX5_isYard wsX5_isYard) := goodIn_app (goodIn_of _ (by decide +kernel)) ggX5_setLines_X5_isYard
set_option maxRecDepth 20000 in
theorem ggX5_setLines_X5_in : GoodIn wsX5_setLines wsX5_in := goodIn_r _ [9] (by decide +kernel) (by decide +kernel)
set_option maxRecDepth 20000 in
theorem gX5_setLines_X5_in : GoodIn wsX5_setLines (va_wsS RX5 84 yX5_in wsX5_in) := goodIn_app (goodIn_of _ (by decide +kernel)) ggX5_setLines_X5_in
set_option maxRecDepth 20000 in
theorem ggX5_setLines_X5_callsTo : GoodIn wsX5_setLines wsX5_callsTo := goodIn_r _ [13, 14, 15, 16, 17, 18, 19, 20, 21, 22, 23, 24, 25, 26, 27, 28, 29, 30, 31, 32, 33, 34, 35, 36, 37, 38, 39, 40, 41, 42, 43, 44, 45, 46] (by decide +kernel) (by decide +kernel)
set_option maxRecDepth 20000 in
theorem gX5_setLines_X5_callsTo : GoodIn wsX5_setLines (wsV RX5 136 RX5 yX5_callsTo wsX5_callsTo) := goodIn_app (goodIn_of _ (by decide +kernel)) ggX5_setLines_X5_callsTo
set_option maxRecDepth 20000 in
theorem ggX5_pass_X5_in : GoodIn wsX5_pass wsX5_in := goodIn_r _ [9] (by decide +kernel) (by decide +kernel)
set_option maxRecDepth 20000 in
theorem gX5_pass_X5_in : GoodIn wsX5_pass (va_wsS RX5 84 yX5_in wsX5_in) := goodIn_app (goodIn_of _ (by decide +kernel)) ggX5_pass_X5_in
set_option maxRecDepth 20000 in
theorem ggX5_asksBooking_X5_isBooking : GoodIn wsX5_asksBooking wsX5_isBooking := goodIn_r _ [6, 7, 8, 9, 5, 10, 11, 12, 13, 14, 15, 16, 17, 18, 19, 20, 21, 22, 23, 24, 25, 26, 27, 28, 29, 30, 31, 32, 33, 34, 35, 36, 37, 38, 39, 40] (by decide +kernel) (by decide +kernel)
set_option maxRecDepth 20000 in
theorem gX5_asksBooking_X5_isBooking : GoodIn wsX5_asksBooking (wsV RX5 158 RX5 yX5_isBooking wsX5_isBooking) := goodIn_app (goodIn_of _ (by decide +kernel)) ggX5_asksBooking_X5_isBooking
set_option maxRecDepth 20000 in
theorem ggX5_state_X5_asksBooking : GoodIn wsX5_state wsX5_asksBooking := goodIn_r _ [6, 7, 8, 9, 10, 5, 11, 12, 13, 14, 15, 16, 17, 18, 19, 20, 21, 22, 23, 24, 25, 26, 27, 28, 29, 30, 31, 32, 33, 34, 35, 36, 37, 38, 39, 40, 41, 42, 43, 44, 45] (by decide +kernel) (by decide +kernel)
set_option maxRecDepth 20000 in
theorem gX5_state_X5_asksBooking : GoodIn wsX5_state (wsV RX5 174 RX5 yX5_asksBooking wsX5_asksBooking) := goodIn_app (goodIn_of _ (by decide +kernel)) ggX5_state_X5_asksBooking
set_option maxRecDepth 20000 in
theorem ggX5_wagons_X5_asksBooking : GoodIn wsX5_wagons wsX5_asksBooking := goodIn_r _ [6, 7, 8, 9, 10, 5, 11, 12, 13, 14, 15, 16, 17, 18, 19, 20, 21, 22, 23, 24, 25, 26, 27, 28, 29, 30, 31, 32, 33, 34, 35, 36, 37, 38, 39, 40, 41, 42, 43, 44, 45] (by decide +kernel) (by decide +kernel)
set_option maxRecDepth 20000 in
theorem gX5_wagons_X5_asksBooking : GoodIn wsX5_wagons (wsV RX5 174 RX5 yX5_asksBooking wsX5_asksBooking) := goodIn_app (goodIn_of _ (by decide +kernel)) ggX5_wagons_X5_asksBooking
set_option maxRecDepth 20000 in
theorem ggX5_wagonOf_X5_isBooking : GoodIn wsX5_wagonOf wsX5_isBooking := goodIn_r _ [8, 9, 10, 11, 7, 12, 13, 14, 15, 16, 17, 18, 19, 20, 21, 22, 23, 24, 25, 26, 27, 28, 29, 30, 31, 32, 33, 34, 35, 36, 37, 38, 39, 40, 41, 42] (by decide +kernel) (by decide +kernel)
set_option maxRecDepth 20000 in
theorem gX5_wagonOf_X5_isBooking : GoodIn wsX5_wagonOf (wsV RX5 158 RX5 yX5_isBooking wsX5_isBooking) := goodIn_app (goodIn_of _ (by decide +kernel)) ggX5_wagonOf_X5_isBooking
set_option maxRecDepth 20000 in
theorem ggX5_wagonOf_X5_in : GoodIn wsX5_wagonOf wsX5_in := goodIn_r _ [12] (by decide +kernel) (by decide +kernel)
set_option maxRecDepth 20000 in
theorem gX5_wagonOf_X5_in : GoodIn wsX5_wagonOf (va_wsS RX5 84 yX5_in wsX5_in) := goodIn_app (goodIn_of _ (by decide +kernel)) ggX5_wagonOf_X5_in
set_option maxRecDepth 20000 in
theorem ggX5_lapses_X5_isBooking : GoodIn wsX5_lapses wsX5_isBooking := goodIn_r _ [9, 10, 11, 12, 8, 13, 14, 15, 16, 17, 18, 19, 20, 21, 22, 23, 24, 25, 26, 27, 28, 29, 30, 31, 32, 33, 34, 35, 36, 37, 38, 39, 40, 41, 42, 43] (by decide +kernel) (by decide +kernel)
set_option maxRecDepth 20000 in
theorem gX5_lapses_X5_isBooking : GoodIn wsX5_lapses (wsV RX5 158 RX5 yX5_isBooking wsX5_isBooking) := goodIn_app (goodIn_of _ (by decide +kernel)) ggX5_lapses_X5_isBooking
set_option maxRecDepth 20000 in
theorem ggX5_canDepart_X5_areOn : GoodIn wsX5_canDepart wsX5_areOn := goodIn_r _ [9, 10, 11, 12, 13, 14, 15, 16, 17, 18, 19, 20, 21, 22, 23, 24, 25, 26, 27, 28, 29, 30, 31, 32, 33, 34, 35, 36, 37, 38, 39, 40, 41, 42] (by decide +kernel) (by decide +kernel)
set_option maxRecDepth 20000 in
theorem gX5_canDepart_X5_areOn : GoodIn wsX5_canDepart (wsV RX5 177 RX5 yX5_areOn wsX5_areOn) := goodIn_app (goodIn_of _ (by decide +kernel)) ggX5_canDepart_X5_areOn
set_option maxRecDepth 20000 in
theorem ggX5_depart_X5_isTrack : GoodIn wsX5_depart wsX5_isTrack := goodIn_r _ [16, 17, 18, 15, 19, 20, 21, 22] (by decide +kernel) (by decide +kernel)
set_option maxRecDepth 20000 in
theorem gX5_depart_X5_isTrack : GoodIn wsX5_depart (va_wsS RX5 95 yX5_isTrack wsX5_isTrack) := goodIn_app (goodIn_of _ (by decide +kernel)) ggX5_depart_X5_isTrack
set_option maxRecDepth 20000 in
theorem ggX5_depart_X5_isYard : GoodIn wsX5_depart wsX5_isYard := goodIn_r _ [19, 20, 21, 15, 22] (by decide +kernel) (by decide +kernel)
set_option maxRecDepth 20000 in
theorem gX5_depart_X5_isYard : GoodIn wsX5_depart (va_wsS RX5 88 yX5_isYard wsX5_isYard) := goodIn_app (goodIn_of _ (by decide +kernel)) ggX5_depart_X5_isYard
set_option maxRecDepth 20000 in
theorem ggX5_depart_X5_canDepart : GoodIn wsX5_depart wsX5_canDepart := goodIn_r _ [26, 2, 9, 3, 10, 27, 28, 29, 15, 30, 31, 6, 32, 33, 34, 35, 36, 37, 38, 39, 40, 41, 42, 43, 44, 45, 46, 47, 48, 49, 50, 51, 52, 53, 54, 55, 56, 57, 58, 59, 60, 61, 62] (by decide +kernel) (by decide +kernel)
set_option maxRecDepth 20000 in
theorem gX5_depart_X5_canDepart : GoodIn wsX5_depart (wsV RX5 180 RX5 yX5_canDepart wsX5_canDepart) := goodIn_app (goodIn_of _ (by decide +kernel)) ggX5_depart_X5_canDepart
set_option maxRecDepth 20000 in
theorem ggX5_arrive_X5_in : GoodIn wsX5_arrive wsX5_in := goodIn_r _ [13] (by decide +kernel) (by decide +kernel)
set_option maxRecDepth 20000 in
theorem gX5_arrive_X5_in : GoodIn wsX5_arrive (va_wsS RX5 84 yX5_in wsX5_in) := goodIn_app (goodIn_of _ (by decide +kernel)) ggX5_arrive_X5_in
set_option maxRecDepth 20000 in
theorem ggX5_arrive_X5_puts : GoodIn wsX5_arrive wsX5_puts := goodIn_r _ [17, 18, 4, 19, 20, 21, 22, 23, 24, 25, 26, 27, 28, 29, 30, 31, 32, 33, 34, 35, 36, 37, 38, 39, 40, 41, 42, 43, 44, 45, 46, 47, 48, 49] (by decide +kernel) (by decide +kernel)
set_option maxRecDepth 20000 in
theorem gX5_arrive_X5_puts : GoodIn wsX5_arrive (wsV RX5 99 RX5 yX5_puts wsX5_puts) := goodIn_app (goodIn_of _ (by decide +kernel)) ggX5_arrive_X5_puts
