def wT : List Cond := lw_tbl.filter goodWord
theorem wT_mem {n : Nat} {w : Cond} (h : lw_tbl[n]? = some w) (hg : goodWord w = true) : w ∈ wT := List.mem_filter.mpr ⟨List.mem_of_getElem? h, hg⟩
theorem wT_tbl : ∀ w ∈ wT, w ∈ lw_tbl := fun _ h => (List.mem_filter.mp h).1
theorem wT_good {w : Cond} (h : w ∈ wT) : (w.onTables && w.keeps) = true ∨ ∃ ty, w = .arrayClass ty := good_of_word (List.mem_filter.mp h).2
abbrev wM (y : MethodName) (cc : ByteArray) (n : Nat) (ret : Option FieldType) : List Cond := Cond.code y cc n ret :: wT
theorem goodM {y : MethodName} {cc : ByteArray} {n : Nat} {ret : Option FieldType} (h : Cond.code y cc n ret ∈ wT) : GoodIn wT (wM y cc n ret) := fun w hw => by
  rcases List.mem_cons.mp hw with rfl | hw
  · exact ⟨h, wT_good h⟩
  · exact ⟨hw, wT_good hw⟩
theorem goodV {own C : String} {idx : Nat} {y : MethodName} {cc : ByteArray} {n : Nat} {ret : Option FieldType} (h1 : Cond.methodLink own idx y ∈ wT) (h2 : Cond.instanceMethod y ∈ wT) (h3 : Cond.selects C y y ∈ wT) (h4 : Cond.initialized C ∈ wT) (h5 : Cond.code y cc n ret ∈ wT) : GoodIn wT (wsV own idx C y (wM y cc n ret)) := fun w hw => by
  unfold wsV at hw
  rcases List.mem_append.mp hw with hw | hw
  · simp only [List.mem_cons, List.not_mem_nil, or_false] at hw
    rcases hw with rfl | rfl | rfl | rfl
    · exact ⟨h1, wT_good h1⟩
    · exact ⟨h2, wT_good h2⟩
    · exact ⟨h3, wT_good h3⟩
    · exact ⟨h4, wT_good h4⟩
  · exact goodM h5 w hw
theorem goodS {own : String} {idx : Nat} {y : MethodName} {cc : ByteArray} {n : Nat} {ret : Option FieldType} (h1 : Cond.methodLink own idx y ∈ wT) (h2 : Cond.static y ∈ wT) (h4 : Cond.initialized y.cls ∈ wT) (h5 : Cond.code y cc n ret ∈ wT) : GoodIn wT (va_wsS own idx y (wM y cc n ret)) := fun w hw => by
  unfold va_wsS at hw
  rcases List.mem_append.mp hw with hw | hw
  · simp only [List.mem_cons, List.not_mem_nil, or_false] at hw
    rcases hw with rfl | rfl | rfl
    · exact ⟨h1, wT_good h1⟩
    · exact ⟨h2, wT_good h2⟩
    · exact ⟨h4, wT_good h4⟩
  · exact goodM h5 w hw
theorem wT_all {ws : List Cond} (h : ws.all (fun w => decide (w ∈ lw_tbl) && goodWord w) = true) : ∀ w ∈ ws, w ∈ wT := fun w hw => by
  have h3 := List.all_eq_true.mp h w hw
  rw [Bool.and_eq_true] at h3
  exact List.mem_filter.mpr ⟨of_decide_eq_true h3.1, h3.2⟩
theorem tws_yX8_addLot : Cond.selects RX8 yX8_addLot yX8_addLot ∈ wT := wT_mem (n := 0) (by decide +kernel) rfl
theorem tws_yX8_lotAt : Cond.selects RX8 yX8_lotAt yX8_lotAt ∈ wT := wT_mem (n := 1) (by decide +kernel) rfl
theorem tws_yX8_buyerAt : Cond.selects RX8 yX8_buyerAt yX8_buyerAt ∈ wT := wT_mem (n := 2) (by decide +kernel) rfl
theorem tws_yX8_freeOf : Cond.selects RX8 yX8_freeOf yX8_freeOf ∈ wT := wT_mem (n := 3) (by decide +kernel) rfl
theorem tws_yX8_lotsAhead : Cond.selects RX8 yX8_lotsAhead yX8_lotsAhead ∈ wT := wT_mem (n := 4) (by decide +kernel) rfl
theorem tws_yX8_runClock : Cond.selects RX8 yX8_runClock yX8_runClock ∈ wT := wT_mem (n := 5) (by decide +kernel) rfl
theorem tws_yX8_dropPressesThatCannotPay : Cond.selects RX8 yX8_dropPressesThatCannotPay yX8_dropPressesThatCannotPay ∈ wT := wT_mem (n := 6) (by decide +kernel) rfl
theorem tws_yX8_firstDuePress : Cond.selects RX8 yX8_firstDuePress yX8_firstDuePress ∈ wT := wT_mem (n := 7) (by decide +kernel) rfl
theorem tws_yX8_sellByClock : Cond.selects RX8 yX8_sellByClock yX8_sellByClock ∈ wT := wT_mem (n := 8) (by decide +kernel) rfl
theorem tws_yX8_pressesTiedWith : Cond.selects RX8 yX8_pressesTiedWith yX8_pressesTiedWith ∈ wT := wT_mem (n := 9) (by decide +kernel) rfl
theorem tws_yX8_stopClock : Cond.selects RX8 yX8_stopClock yX8_stopClock ∈ wT := wT_mem (n := 10) (by decide +kernel) rfl
theorem tws_yX8_dropPressesFrom : Cond.selects RX8 yX8_dropPressesFrom yX8_dropPressesFrom ∈ wT := wT_mem (n := 11) (by decide +kernel) rfl
theorem tws_yX8_sellRipeOffers : Cond.selects RX8 yX8_sellRipeOffers yX8_sellRipeOffers ∈ wT := wT_mem (n := 12) (by decide +kernel) rfl
theorem tws_yX8_bidAt : Cond.selects RX8 yX8_bidAt yX8_bidAt ∈ wT := wT_mem (n := 13) (by decide +kernel) rfl
theorem tws_yX8_findWinners : Cond.selects RX8 yX8_findWinners yX8_findWinners ∈ wT := wT_mem (n := 14) (by decide +kernel) rfl
theorem tws_yX8_isGood : Cond.selects RX8 yX8_isGood yX8_isGood ∈ wT := wT_mem (n := 15) (by decide +kernel) rfl
theorem tws_yX6_addUpRests : Cond.selects RX6 yX6_addUpRests yX6_addUpRests ∈ wT := wT_mem (n := 16) (by decide +kernel) rfl
theorem tws_yX6_isBetter : Cond.selects RX6 yX6_isBetter yX6_isBetter ∈ wT := wT_mem (n := 17) (by decide +kernel) rfl
theorem tws_yX6_goodAt : Cond.selects RX6 yX6_goodAt yX6_goodAt ∈ wT := wT_mem (n := 18) (by decide +kernel) rfl
theorem tws_yX6_restFrom : Cond.selects RX6 yX6_restFrom yX6_restFrom ∈ wT := wT_mem (n := 19) (by decide +kernel) rfl
theorem tws_yX6_spend : Cond.selects RX6 yX6_spend yX6_spend ∈ wT := wT_mem (n := 20) (by decide +kernel) rfl
theorem tws_yX8_sellSet : Cond.selects RX8 yX8_sellSet yX8_sellSet ∈ wT := wT_mem (n := 21) (by decide +kernel) rfl
theorem tws_yX8_playTurn : Cond.selects RX8 yX8_playTurn yX8_playTurn ∈ wT := wT_mem (n := 22) (by decide +kernel) rfl
theorem tws_yX8_soldCount : Cond.selects RX8 yX8_soldCount yX8_soldCount ∈ wT := wT_mem (n := 23) (by decide +kernel) rfl
theorem tws_yX9_add : Cond.selects RX9 yX9_add yX9_add ∈ wT := wT_mem (n := 24) (by decide +kernel) rfl
theorem tws_yX9_isLot : Cond.selects RX9 yX9_isLot yX9_isLot ∈ wT := wT_mem (n := 25) (by decide +kernel) rfl
theorem tws_yX9_priceAt : Cond.selects RX9 yX9_priceAt yX9_priceAt ∈ wT := wT_mem (n := 26) (by decide +kernel) rfl
theorem tws_yX9_isBuyer : Cond.selects RX9 yX9_isBuyer yX9_isBuyer ∈ wT := wT_mem (n := 27) (by decide +kernel) rfl
theorem tws_yX9_goOn : Cond.selects RX9 yX9_goOn yX9_goOn ∈ wT := wT_mem (n := 28) (by decide +kernel) rfl
theorem tws_yX9_earliest : Cond.selects RX9 yX9_earliest yX9_earliest ∈ wT := wT_mem (n := 29) (by decide +kernel) rfl
theorem tws_yX9_free : Cond.selects RX9 yX9_free yX9_free ∈ wT := wT_mem (n := 30) (by decide +kernel) rfl
theorem tws_yX9_heldBy : Cond.selects RX9 yX9_heldBy yX9_heldBy ∈ wT := wT_mem (n := 31) (by decide +kernel) rfl
theorem tws_yX9_sell : Cond.selects RX9 yX9_sell yX9_sell ∈ wT := wT_mem (n := 32) (by decide +kernel) rfl
theorem tws_yX9_note : Cond.selects RX9 yX9_note yX9_note ∈ wT := wT_mem (n := 33) (by decide +kernel) rfl
theorem tws_yX9_next : Cond.selects RX9 yX9_next yX9_next ∈ wT := wT_mem (n := 34) (by decide +kernel) rfl
theorem tws_yX9_isBought : Cond.selects RX9 yX9_isBought yX9_isBought ∈ wT := wT_mem (n := 35) (by decide +kernel) rfl
theorem tws_yX9_isGood : Cond.selects RX9 yX9_isGood yX9_isGood ∈ wT := wT_mem (n := 36) (by decide +kernel) rfl
theorem tws_yX9_sumOf : Cond.selects RX9 yX9_sumOf yX9_sumOf ∈ wT := wT_mem (n := 37) (by decide +kernel) rfl
theorem tws_yX9_turn : Cond.selects RX9 yX9_turn yX9_turn ∈ wT := wT_mem (n := 38) (by decide +kernel) rfl
theorem twn_RL : Cond.initialized RL ∈ wT := wT_mem (n := 39) (by decide +kernel) rfl
theorem twn_RX8 : Cond.initialized RX8 ∈ wT := wT_mem (n := 40) (by decide +kernel) rfl
theorem twn_RX4 : Cond.initialized RX4 ∈ wT := wT_mem (n := 41) (by decide +kernel) rfl
theorem twn_RX2 : Cond.initialized RX2 ∈ wT := wT_mem (n := 42) (by decide +kernel) rfl
theorem twn_RX6 : Cond.initialized RX6 ∈ wT := wT_mem (n := 43) (by decide +kernel) rfl
theorem twn_RX9 : Cond.initialized RX9 ∈ wT := wT_mem (n := 44) (by decide +kernel) rfl
theorem twn_RX5 : Cond.initialized RX5 ∈ wT := wT_mem (n := 45) (by decide +kernel) rfl
theorem twn_RJx29ce0 : Cond.initialized RJx29ce0 ∈ wT := wT_mem (n := 46) (by decide +kernel) rfl
theorem twn_RX7 : Cond.initialized RX7 ∈ wT := wT_mem (n := 47) (by decide +kernel) rfl
theorem twn_RX1 : Cond.initialized RX1 ∈ wT := wT_mem (n := 48) (by decide +kernel) rfl
theorem twn_RJ9 : Cond.initialized RJ9 ∈ wT := wT_mem (n := 49) (by decide +kernel) rfl
theorem twn_RX3 : Cond.initialized RX3 ∈ wT := wT_mem (n := 50) (by decide +kernel) rfl
theorem twn_RX0 : Cond.initialized RX0 ∈ wT := wT_mem (n := 51) (by decide +kernel) rfl
theorem twn_RJ6 : Cond.initialized RJ6 ∈ wT := wT_mem (n := 52) (by decide +kernel) rfl
theorem twc_RL_7 : Cond.classLink RL 7 RX8 ∈ wT := wT_mem (n := 53) (by decide +kernel) rfl
theorem twt_RX8 : Cond.instantiable RX8 11 ∈ wT := wT_mem (n := 54) (by decide +kernel) rfl
theorem twm_RL_9 : Cond.methodLink RL 9 yX8_init ∈ wT := wT_mem (n := 55) (by decide +kernel) rfl
theorem twi_yX8_init : Cond.instanceMethod yX8_init ∈ wT := wT_mem (n := 56) (by decide +kernel) rfl
theorem two_yX8_init : Cond.code yX8_init cX8_init 1 none ∈ wT := wT_mem (n := 57) (by decide +kernel) rfl
theorem twm_RX8_1 : Cond.methodLink RX8 1 objectInit ∈ wT := wT_mem (n := 58) (by decide +kernel) rfl
theorem twi_objectInit : Cond.instanceMethod objectInit ∈ wT := wT_mem (n := 59) (by decide +kernel) rfl
theorem two_objectInit : Cond.code objectInit ⟨#[0xb1]⟩ 1 none ∈ wT := wT_mem (n := 60) (by decide +kernel) rfl
theorem twc_RX8_9 : Cond.classLink RX8 9 RX5 ∈ wT := wT_mem (n := 61) (by decide +kernel) rfl
theorem twc_RX8_15 : Cond.classLink RX8 15 RX1 ∈ wT := wT_mem (n := 63) (by decide +kernel) rfl
theorem twc_RX8_21 : Cond.classLink RX8 21 RX0 ∈ wT := wT_mem (n := 65) (by decide +kernel) rfl
theorem twc_RX8_27 : Cond.classLink RX8 27 RX4 ∈ wT := wT_mem (n := 67) (by decide +kernel) rfl
theorem twt_RX4 : Cond.instantiable RX4 6 ∈ wT := wT_mem (n := 68) (by decide +kernel) rfl
theorem twi_yX4_init : Cond.instanceMethod yX4_init ∈ wT := wT_mem (n := 70) (by decide +kernel) rfl
theorem two_yX4_init : Cond.code yX4_init cX4_init 1 none ∈ wT := wT_mem (n := 71) (by decide +kernel) rfl
theorem twm_RX4_1 : Cond.methodLink RX4 1 objectInit ∈ wT := wT_mem (n := 72) (by decide +kernel) rfl
theorem twf_RX4_9 : Cond.fieldLink RX4 9 "ClockAuctions$FallingClock" "lot" "LClockAuctions$Lot;" ∈ wT := wT_mem (n := 73) (by decide +kernel) rfl
theorem twf_RX8_164 : Cond.fieldLink RX8 164 "ClockAuctions$FallingClock" "lot" "LClockAuctions$Lot;" ∈ wT := wT_mem (n := 74) (by decide +kernel) rfl
theorem twf_RX4_15 : Cond.fieldLink RX4 15 "ClockAuctions$FallingClock" "from" "J" ∈ wT := wT_mem (n := 75) (by decide +kernel) rfl
theorem twf_RX4_19 : Cond.fieldLink RX4 19 "ClockAuctions$FallingClock" "step" "J" ∈ wT := wT_mem (n := 76) (by decide +kernel) rfl
theorem twf_RX4_22 : Cond.fieldLink RX4 22 "ClockAuctions$FallingClock" "end" "J" ∈ wT := wT_mem (n := 77) (by decide +kernel) rfl
theorem twf_RX8_198 : Cond.fieldLink RX8 198 "ClockAuctions$FallingClock" "end" "J" ∈ wT := wT_mem (n := 78) (by decide +kernel) rfl
theorem twf_RX4_25 : Cond.fieldLink RX4 25 "ClockAuctions$FallingClock" "time" "J" ∈ wT := wT_mem (n := 79) (by decide +kernel) rfl
theorem twf_RX8_218 : Cond.fieldLink RX8 218 "ClockAuctions$FallingClock" "time" "J" ∈ wT := wT_mem (n := 80) (by decide +kernel) rfl
theorem twf_RX4_28 : Cond.fieldLink RX4 28 "ClockAuctions$FallingClock" "stands" "Z" ∈ wT := wT_mem (n := 81) (by decide +kernel) rfl
theorem twf_RX8_188 : Cond.fieldLink RX8 188 "ClockAuctions$FallingClock" "stands" "Z" ∈ wT := wT_mem (n := 82) (by decide +kernel) rfl
theorem twc_RX8_34 : Cond.classLink RX8 34 RX2 ∈ wT := wT_mem (n := 96) (by decide +kernel) rfl
theorem twt_RX2 : Cond.instantiable RX2 3 ∈ wT := wT_mem (n := 97) (by decide +kernel) rfl
theorem twi_yX2_init : Cond.instanceMethod yX2_init ∈ wT := wT_mem (n := 99) (by decide +kernel) rfl
theorem two_yX2_init : Cond.code yX2_init cX2_init 1 none ∈ wT := wT_mem (n := 100) (by decide +kernel) rfl
theorem twm_RX2_3 : Cond.methodLink RX2 3 objectInit ∈ wT := wT_mem (n := 101) (by decide +kernel) rfl
theorem twc_RX2_11 : Cond.classLink RX2 11 RX3 ∈ wT := wT_mem (n := 102) (by decide +kernel) rfl
theorem twf_RX2_13 : Cond.fieldLink RX2 13 "ClockAuctions$Chain" "entries" "[LClockAuctions$Entry;" ∈ wT := wT_mem (n := 104) (by decide +kernel) rfl
theorem twf_RX2_21 : Cond.fieldLink RX2 21 "ClockAuctions$Chain" "count" "I" ∈ wT := wT_mem (n := 105) (by decide +kernel) rfl
theorem twf_RX2_17 : Cond.fieldLink RX2 17 "ClockAuctions$Chain" "last" "I" ∈ wT := wT_mem (n := 106) (by decide +kernel) rfl
theorem twc_RX8_41 : Cond.classLink RX8 41 RX6 ∈ wT := wT_mem (n := 114) (by decide +kernel) rfl
theorem twt_RX6 : Cond.instantiable RX6 6 ∈ wT := wT_mem (n := 115) (by decide +kernel) rfl
theorem twi_yX6_init : Cond.instanceMethod yX6_init ∈ wT := wT_mem (n := 117) (by decide +kernel) rfl
theorem two_yX6_init : Cond.code yX6_init cX6_init 1 none ∈ wT := wT_mem (n := 118) (by decide +kernel) rfl
theorem twm_RX6_3 : Cond.methodLink RX6 3 objectInit ∈ wT := wT_mem (n := 119) (by decide +kernel) rfl
theorem twc_RX6_9 : Cond.classLink RX6 9 RX0 ∈ wT := wT_mem (n := 120) (by decide +kernel) rfl
theorem twf_RX6_11 : Cond.fieldLink RX6 11 "ClockAuctions$SetSearch" "good" "[LClockAuctions$Bid;" ∈ wT := wT_mem (n := 121) (by decide +kernel) rfl
theorem twf_RX6_17 : Cond.fieldLink RX6 17 "ClockAuctions$SetSearch" "restSums" "[J" ∈ wT := wT_mem (n := 122) (by decide +kernel) rfl
theorem twf_RX6_21 : Cond.fieldLink RX6 21 "ClockAuctions$SetSearch" "purses" "[J" ∈ wT := wT_mem (n := 123) (by decide +kernel) rfl
theorem twf_RX6_24 : Cond.fieldLink RX6 24 "ClockAuctions$SetSearch" "count" "I" ∈ wT := wT_mem (n := 124) (by decide +kernel) rfl
theorem twf_RX6_28 : Cond.fieldLink RX6 28 "ClockAuctions$SetSearch" "bestChosen" "I" ∈ wT := wT_mem (n := 125) (by decide +kernel) rfl
theorem twf_RX6_31 : Cond.fieldLink RX6 31 "ClockAuctions$SetSearch" "bestSum" "J" ∈ wT := wT_mem (n := 126) (by decide +kernel) rfl
theorem twf_RX8_282 : Cond.fieldLink RX8 282 "ClockAuctions$SetSearch" "bestSum" "J" ∈ wT := wT_mem (n := 127) (by decide +kernel) rfl
theorem twa_long : Cond.arrayClass .long ∈ wT := wT_mem (n := 141) (by decide +kernel) rfl
theorem twf_RX8_11 : Cond.fieldLink RX8 11 "ClockAuctions" "lots" "[LClockAuctions$Lot;" ∈ wT := wT_mem (n := 142) (by decide +kernel) rfl
theorem twf_RX8_17 : Cond.fieldLink RX8 17 "ClockAuctions" "buyers" "[LClockAuctions$Buyer;" ∈ wT := wT_mem (n := 143) (by decide +kernel) rfl
theorem twf_RX8_23 : Cond.fieldLink RX8 23 "ClockAuctions" "bids" "[LClockAuctions$Bid;" ∈ wT := wT_mem (n := 144) (by decide +kernel) rfl
theorem twf_RX8_30 : Cond.fieldLink RX8 30 "ClockAuctions" "running" "LClockAuctions$FallingClock;" ∈ wT := wT_mem (n := 145) (by decide +kernel) rfl
theorem twf_RX8_37 : Cond.fieldLink RX8 37 "ClockAuctions" "chain" "LClockAuctions$Chain;" ∈ wT := wT_mem (n := 146) (by decide +kernel) rfl
theorem twf_RX8_44 : Cond.fieldLink RX8 44 "ClockAuctions" "search" "LClockAuctions$SetSearch;" ∈ wT := wT_mem (n := 147) (by decide +kernel) rfl
theorem twf_RX8_115 : Cond.fieldLink RX8 115 "ClockAuctions" "lotCount" "I" ∈ wT := wT_mem (n := 148) (by decide +kernel) rfl
theorem twf_RX8_60 : Cond.fieldLink RX8 60 "ClockAuctions" "buyerCount" "I" ∈ wT := wT_mem (n := 149) (by decide +kernel) rfl
theorem twf_RX8_249 : Cond.fieldLink RX8 249 "ClockAuctions" "bidCount" "I" ∈ wT := wT_mem (n := 150) (by decide +kernel) rfl
theorem twf_RX8_208 : Cond.fieldLink RX8 208 "ClockAuctions" "day" "J" ∈ wT := wT_mem (n := 151) (by decide +kernel) rfl
theorem twf_RX8_265 : Cond.fieldLink RX8 265 "ClockAuctions" "latestSetsStood" "Z" ∈ wT := wT_mem (n := 152) (by decide +kernel) rfl
theorem twm_RL_15 : Cond.methodLink RL 15 yX8_lot ∈ wT := wT_mem (n := 176) (by decide +kernel) rfl
theorem twi_yX8_lot : Cond.instanceMethod yX8_lot ∈ wT := wT_mem (n := 177) (by decide +kernel) rfl
theorem tws_yX8_lot : Cond.selects RX8 yX8_lot yX8_lot ∈ wT := wT_mem (n := 178) (by decide +kernel) rfl
theorem two_yX8_lot : Cond.code yX8_lot cX8_lot 6 (some (FieldType.int)) ∈ wT := wT_mem (n := 179) (by decide +kernel) rfl
theorem twl_RX8_48 : Cond.constantLong RX8 48 (9) ∈ wT := wT_mem (n := 180) (by decide +kernel) rfl
theorem twm_RX8_50 : Cond.methodLink RX8 50 yX8_isWithin ∈ wT := wT_mem (n := 181) (by decide +kernel) rfl
theorem twi_yX8_isWithin : Cond.static yX8_isWithin ∈ wT := wT_mem (n := 182) (by decide +kernel) rfl
theorem two_yX8_isWithin : Cond.code yX8_isWithin cX8_isWithin 6 (some (FieldType.boolean)) ∈ wT := wT_mem (n := 183) (by decide +kernel) rfl
theorem twl_RX8_54 : Cond.constantLong RX8 54 (1000000000) ∈ wT := wT_mem (n := 184) (by decide +kernel) rfl
theorem twm_RX8_56 : Cond.methodLink RX8 56 yX8_addLot ∈ wT := wT_mem (n := 185) (by decide +kernel) rfl
theorem twi_yX8_addLot : Cond.instanceMethod yX8_addLot ∈ wT := wT_mem (n := 187) (by decide +kernel) rfl
theorem two_yX8_addLot : Cond.code yX8_addLot cX8_addLot 7 (some (FieldType.int)) ∈ wT := wT_mem (n := 188) (by decide +kernel) rfl
theorem twt_RX5 : Cond.instantiable RX5 12 ∈ wT := wT_mem (n := 189) (by decide +kernel) rfl
theorem twm_RX8_356 : Cond.methodLink RX8 356 yX5_init ∈ wT := wT_mem (n := 190) (by decide +kernel) rfl
theorem twi_yX5_init : Cond.instanceMethod yX5_init ∈ wT := wT_mem (n := 191) (by decide +kernel) rfl
theorem two_yX5_init : Cond.code yX5_init cX5_init 7 none ∈ wT := wT_mem (n := 192) (by decide +kernel) rfl
theorem twm_RX5_3 : Cond.methodLink RX5 3 objectInit ∈ wT := wT_mem (n := 193) (by decide +kernel) rfl
theorem twf_RX5_25 : Cond.fieldLink RX5 25 "ClockAuctions$State" "OPEN" "LClockAuctions$State;" ∈ wT := wT_mem (n := 194) (by decide +kernel) rfl
theorem twf_RX5_9 : Cond.fieldLink RX5 9 "ClockAuctions$Lot" "number" "I" ∈ wT := wT_mem (n := 196) (by decide +kernel) rfl
theorem twf_RX8_383 : Cond.fieldLink RX8 383 "ClockAuctions$Lot" "number" "I" ∈ wT := wT_mem (n := 197) (by decide +kernel) rfl
theorem twf_RX5_15 : Cond.fieldLink RX5 15 "ClockAuctions$Lot" "kind" "I" ∈ wT := wT_mem (n := 198) (by decide +kernel) rfl
theorem twf_RX8_141 : Cond.fieldLink RX8 141 "ClockAuctions$Lot" "kind" "I" ∈ wT := wT_mem (n := 199) (by decide +kernel) rfl
theorem twf_RX5_18 : Cond.fieldLink RX5 18 "ClockAuctions$Lot" "grams" "J" ∈ wT := wT_mem (n := 200) (by decide +kernel) rfl
theorem twf_RX8_86 : Cond.fieldLink RX8 86 "ClockAuctions$Lot" "grams" "J" ∈ wT := wT_mem (n := 201) (by decide +kernel) rfl
theorem twf_RX5_22 : Cond.fieldLink RX5 22 "ClockAuctions$Lot" "reserve" "J" ∈ wT := wT_mem (n := 202) (by decide +kernel) rfl
theorem twf_RX8_144 : Cond.fieldLink RX8 144 "ClockAuctions$Lot" "reserve" "J" ∈ wT := wT_mem (n := 203) (by decide +kernel) rfl
theorem twf_RX5_31 : Cond.fieldLink RX5 31 "ClockAuctions$Lot" "state" "LClockAuctions$State;" ∈ wT := wT_mem (n := 204) (by decide +kernel) rfl
theorem twf_RX8_100 : Cond.fieldLink RX8 100 "ClockAuctions$Lot" "state" "LClockAuctions$State;" ∈ wT := wT_mem (n := 205) (by decide +kernel) rfl
theorem twf_RX5_34 : Cond.fieldLink RX5 34 "ClockAuctions$Lot" "taker" "I" ∈ wT := wT_mem (n := 206) (by decide +kernel) rfl
theorem twf_RX8_77 : Cond.fieldLink RX8 77 "ClockAuctions$Lot" "taker" "I" ∈ wT := wT_mem (n := 207) (by decide +kernel) rfl
theorem twf_RX8_82 : Cond.fieldLink RX8 82 "ClockAuctions$Lot" "cents" "J" ∈ wT := wT_mem (n := 208) (by decide +kernel) rfl
theorem twf_RX5_49 : Cond.fieldLink RX5 49 "ClockAuctions$Lot" "cents" "J" ∈ wT := wT_mem (n := 209) (by decide +kernel) rfl
theorem twf_RX8_246 : Cond.fieldLink RX8 246 "ClockAuctions$Lot" "offeredOn" "J" ∈ wT := wT_mem (n := 210) (by decide +kernel) rfl
theorem twf_RX8_126 : Cond.fieldLink RX8 126 "ClockAuctions$Lot" "soldByClock" "Z" ∈ wT := wT_mem (n := 211) (by decide +kernel) rfl
theorem twf_RX8_130 : Cond.fieldLink RX8 130 "ClockAuctions$Lot" "parted" "Z" ∈ wT := wT_mem (n := 212) (by decide +kernel) rfl
theorem twf_RX8_150 : Cond.fieldLink RX8 150 "ClockAuctions$Lot" "reopened" "Z" ∈ wT := wT_mem (n := 213) (by decide +kernel) rfl
theorem twf_RX5_46 : Cond.fieldLink RX5 46 "ClockAuctions$Lot" "tied" "I" ∈ wT := wT_mem (n := 214) (by decide +kernel) rfl
theorem twf_RX8_391 : Cond.fieldLink RX8 391 "ClockAuctions$Lot" "tied" "I" ∈ wT := wT_mem (n := 215) (by decide +kernel) rfl
theorem twm_RL_20 : Cond.methodLink RL 20 yX8_buyer ∈ wT := wT_mem (n := 241) (by decide +kernel) rfl
theorem twi_yX8_buyer : Cond.instanceMethod yX8_buyer ∈ wT := wT_mem (n := 242) (by decide +kernel) rfl
theorem tws_yX8_buyer : Cond.selects RX8 yX8_buyer yX8_buyer ∈ wT := wT_mem (n := 243) (by decide +kernel) rfl
theorem two_yX8_buyer : Cond.code yX8_buyer cX8_buyer 4 (some (FieldType.int)) ∈ wT := wT_mem (n := 244) (by decide +kernel) rfl
theorem twl_RX8_64 : Cond.constantLong RX8 64 (1000000000000) ∈ wT := wT_mem (n := 245) (by decide +kernel) rfl
theorem twt_RX1 : Cond.instantiable RX1 4 ∈ wT := wT_mem (n := 246) (by decide +kernel) rfl
theorem twm_RX8_66 : Cond.methodLink RX8 66 yX1_init ∈ wT := wT_mem (n := 247) (by decide +kernel) rfl
theorem twi_yX1_init : Cond.instanceMethod yX1_init ∈ wT := wT_mem (n := 248) (by decide +kernel) rfl
theorem two_yX1_init : Cond.code yX1_init cX1_init 4 none ∈ wT := wT_mem (n := 249) (by decide +kernel) rfl
theorem twm_RX1_3 : Cond.methodLink RX1 3 objectInit ∈ wT := wT_mem (n := 250) (by decide +kernel) rfl
theorem twl_RX1_19 : Cond.constantLong RX1 19 (-1) ∈ wT := wT_mem (n := 251) (by decide +kernel) rfl
theorem twf_RX1_9 : Cond.fieldLink RX1 9 "ClockAuctions$Buyer" "number" "I" ∈ wT := wT_mem (n := 252) (by decide +kernel) rfl
theorem twf_RX8_359 : Cond.fieldLink RX8 359 "ClockAuctions$Buyer" "number" "I" ∈ wT := wT_mem (n := 253) (by decide +kernel) rfl
theorem twf_RX1_15 : Cond.fieldLink RX1 15 "ClockAuctions$Buyer" "credit" "J" ∈ wT := wT_mem (n := 254) (by decide +kernel) rfl
theorem twf_RX8_93 : Cond.fieldLink RX8 93 "ClockAuctions$Buyer" "credit" "J" ∈ wT := wT_mem (n := 255) (by decide +kernel) rfl
theorem twf_RX8_185 : Cond.fieldLink RX8 185 "ClockAuctions$Buyer" "lateBy" "J" ∈ wT := wT_mem (n := 256) (by decide +kernel) rfl
theorem twf_RX1_21 : Cond.fieldLink RX1 21 "ClockAuctions$Buyer" "pressTime" "J" ∈ wT := wT_mem (n := 257) (by decide +kernel) rfl
theorem twf_RX8_205 : Cond.fieldLink RX8 205 "ClockAuctions$Buyer" "pressTime" "J" ∈ wT := wT_mem (n := 258) (by decide +kernel) rfl
theorem twm_RL_42 : Cond.methodLink RL 42 yX8_winner ∈ wT := wT_mem (n := 268) (by decide +kernel) rfl
theorem twi_yX8_winner : Cond.instanceMethod yX8_winner ∈ wT := wT_mem (n := 269) (by decide +kernel) rfl
theorem tws_yX8_winner : Cond.selects RX8 yX8_winner yX8_winner ∈ wT := wT_mem (n := 270) (by decide +kernel) rfl
theorem two_yX8_winner : Cond.code yX8_winner cX8_winner 3 (some (FieldType.int)) ∈ wT := wT_mem (n := 271) (by decide +kernel) rfl
theorem twm_RX8_69 : Cond.methodLink RX8 69 yX8_lotAt ∈ wT := wT_mem (n := 272) (by decide +kernel) rfl
theorem twi_yX8_lotAt : Cond.instanceMethod yX8_lotAt ∈ wT := wT_mem (n := 274) (by decide +kernel) rfl
theorem two_yX8_lotAt : Cond.code yX8_lotAt cX8_lotAt 2 (some ((FieldType.object "ClockAuctions$Lot"))) ∈ wT := wT_mem (n := 275) (by decide +kernel) rfl
theorem twm_RX8_73 : Cond.methodLink RX8 73 yX5_hasTaker ∈ wT := wT_mem (n := 276) (by decide +kernel) rfl
theorem twi_yX5_hasTaker : Cond.instanceMethod yX5_hasTaker ∈ wT := wT_mem (n := 277) (by decide +kernel) rfl
theorem tws_yX5_hasTaker : Cond.selects RX5 yX5_hasTaker yX5_hasTaker ∈ wT := wT_mem (n := 278) (by decide +kernel) rfl
theorem two_yX5_hasTaker : Cond.code yX5_hasTaker cX5_hasTaker 1 (some (FieldType.boolean)) ∈ wT := wT_mem (n := 279) (by decide +kernel) rfl
theorem twf_RX5_37 : Cond.fieldLink RX5 37 "ClockAuctions$State" "SOLD" "LClockAuctions$State;" ∈ wT := wT_mem (n := 280) (by decide +kernel) rfl
theorem twf_RX5_40 : Cond.fieldLink RX5 40 "ClockAuctions$State" "OFFERED" "LClockAuctions$State;" ∈ wT := wT_mem (n := 282) (by decide +kernel) rfl
theorem twm_RL_47 : Cond.methodLink RL 47 yX8_price ∈ wT := wT_mem (n := 284) (by decide +kernel) rfl
theorem twi_yX8_price : Cond.instanceMethod yX8_price ∈ wT := wT_mem (n := 285) (by decide +kernel) rfl
theorem tws_yX8_price : Cond.selects RX8 yX8_price yX8_price ∈ wT := wT_mem (n := 286) (by decide +kernel) rfl
theorem two_yX8_price : Cond.code yX8_price cX8_price 3 (some (FieldType.long)) ∈ wT := wT_mem (n := 287) (by decide +kernel) rfl
theorem twl_RX8_80 : Cond.constantLong RX8 80 (-1) ∈ wT := wT_mem (n := 288) (by decide +kernel) rfl
theorem twm_RL_57 : Cond.methodLink RL 57 yX8_left ∈ wT := wT_mem (n := 289) (by decide +kernel) rfl
theorem twi_yX8_left : Cond.instanceMethod yX8_left ∈ wT := wT_mem (n := 290) (by decide +kernel) rfl
theorem tws_yX8_left : Cond.selects RX8 yX8_left yX8_left ∈ wT := wT_mem (n := 291) (by decide +kernel) rfl
theorem two_yX8_left : Cond.code yX8_left cX8_left 3 (some (FieldType.long)) ∈ wT := wT_mem (n := 292) (by decide +kernel) rfl
theorem twm_RL_103 : Cond.methodLink RL 103 yX8_held ∈ wT := wT_mem (n := 293) (by decide +kernel) rfl
theorem twi_yX8_held : Cond.instanceMethod yX8_held ∈ wT := wT_mem (n := 294) (by decide +kernel) rfl
theorem tws_yX8_held : Cond.selects RX8 yX8_held yX8_held ∈ wT := wT_mem (n := 295) (by decide +kernel) rfl
theorem two_yX8_held : Cond.code yX8_held cX8_held 3 (some (FieldType.long)) ∈ wT := wT_mem (n := 296) (by decide +kernel) rfl
theorem twm_RX8_89 : Cond.methodLink RX8 89 yX8_buyerAt ∈ wT := wT_mem (n := 297) (by decide +kernel) rfl
theorem twi_yX8_buyerAt : Cond.instanceMethod yX8_buyerAt ∈ wT := wT_mem (n := 299) (by decide +kernel) rfl
theorem two_yX8_buyerAt : Cond.code yX8_buyerAt cX8_buyerAt 2 (some ((FieldType.object "ClockAuctions$Buyer"))) ∈ wT := wT_mem (n := 300) (by decide +kernel) rfl
theorem twm_RX8_96 : Cond.methodLink RX8 96 yX8_freeOf ∈ wT := wT_mem (n := 301) (by decide +kernel) rfl
theorem twi_yX8_freeOf : Cond.instanceMethod yX8_freeOf ∈ wT := wT_mem (n := 303) (by decide +kernel) rfl
theorem two_yX8_freeOf : Cond.code yX8_freeOf cX8_freeOf 6 (some (FieldType.long)) ∈ wT := wT_mem (n := 304) (by decide +kernel) rfl
theorem twm_RL_111 : Cond.methodLink RL 111 yX8_fee ∈ wT := wT_mem (n := 305) (by decide +kernel) rfl
theorem twi_yX8_fee : Cond.instanceMethod yX8_fee ∈ wT := wT_mem (n := 306) (by decide +kernel) rfl
theorem tws_yX8_fee : Cond.selects RX8 yX8_fee yX8_fee ∈ wT := wT_mem (n := 307) (by decide +kernel) rfl
theorem two_yX8_fee : Cond.code yX8_fee cX8_fee 3 (some (FieldType.long)) ∈ wT := wT_mem (n := 308) (by decide +kernel) rfl
theorem twf_RX8_104 : Cond.fieldLink RX8 104 "ClockAuctions$State" "SOLD" "LClockAuctions$State;" ∈ wT := wT_mem (n := 309) (by decide +kernel) rfl
theorem twl_RX8_109 : Cond.constantLong RX8 109 (49) ∈ wT := wT_mem (n := 310) (by decide +kernel) rfl
theorem twl_RX8_111 : Cond.constantLong RX8 111 (50) ∈ wT := wT_mem (n := 311) (by decide +kernel) rfl
theorem twl_RX8_113 : Cond.constantLong RX8 113 (30) ∈ wT := wT_mem (n := 312) (by decide +kernel) rfl
theorem twm_RL_124 : Cond.methodLink RL 124 yX8_order ∈ wT := wT_mem (n := 313) (by decide +kernel) rfl
theorem twi_yX8_order : Cond.instanceMethod yX8_order ∈ wT := wT_mem (n := 314) (by decide +kernel) rfl
theorem tws_yX8_order : Cond.selects RX8 yX8_order yX8_order ∈ wT := wT_mem (n := 315) (by decide +kernel) rfl
theorem two_yX8_order : Cond.code yX8_order cX8_order 5 (some (FieldType.int)) ∈ wT := wT_mem (n := 316) (by decide +kernel) rfl
theorem twm_RX8_118 : Cond.methodLink RX8 118 yX5_isOpenOf ∈ wT := wT_mem (n := 317) (by decide +kernel) rfl
theorem twi_yX5_isOpenOf : Cond.instanceMethod yX5_isOpenOf ∈ wT := wT_mem (n := 318) (by decide +kernel) rfl
theorem tws_yX5_isOpenOf : Cond.selects RX5 yX5_isOpenOf yX5_isOpenOf ∈ wT := wT_mem (n := 319) (by decide +kernel) rfl
theorem two_yX5_isOpenOf : Cond.code yX5_isOpenOf cX5_isOpenOf 2 (some (FieldType.boolean)) ∈ wT := wT_mem (n := 320) (by decide +kernel) rfl
theorem twm_RX8_122 : Cond.methodLink RX8 122 yX8_lotsAhead ∈ wT := wT_mem (n := 321) (by decide +kernel) rfl
theorem twi_yX8_lotsAhead : Cond.instanceMethod yX8_lotsAhead ∈ wT := wT_mem (n := 323) (by decide +kernel) rfl
theorem two_yX8_lotsAhead : Cond.code yX8_lotsAhead cX8_lotsAhead 5 (some (FieldType.int)) ∈ wT := wT_mem (n := 324) (by decide +kernel) rfl
theorem twm_RX8_362 : Cond.methodLink RX8 362 yX5_goesBefore ∈ wT := wT_mem (n := 325) (by decide +kernel) rfl
theorem twi_yX5_goesBefore : Cond.instanceMethod yX5_goesBefore ∈ wT := wT_mem (n := 326) (by decide +kernel) rfl
theorem tws_yX5_goesBefore : Cond.selects RX5 yX5_goesBefore yX5_goesBefore ∈ wT := wT_mem (n := 327) (by decide +kernel) rfl
theorem two_yX5_goesBefore : Cond.code yX5_goesBefore cX5_goesBefore 2 (some (FieldType.boolean)) ∈ wT := wT_mem (n := 328) (by decide +kernel) rfl
theorem twm_RL_52 : Cond.methodLink RL 52 yX8_part ∈ wT := wT_mem (n := 329) (by decide +kernel) rfl
theorem twi_yX8_part : Cond.instanceMethod yX8_part ∈ wT := wT_mem (n := 330) (by decide +kernel) rfl
theorem tws_yX8_part : Cond.selects RX8 yX8_part yX8_part ∈ wT := wT_mem (n := 331) (by decide +kernel) rfl
theorem two_yX8_part : Cond.code yX8_part cX8_part 7 (some (FieldType.int)) ∈ wT := wT_mem (n := 332) (by decide +kernel) rfl
theorem twm_RX8_133 : Cond.methodLink RX8 133 yX8_shareOf ∈ wT := wT_mem (n := 333) (by decide +kernel) rfl
theorem twi_yX8_shareOf : Cond.static yX8_shareOf ∈ wT := wT_mem (n := 334) (by decide +kernel) rfl
theorem two_yX8_shareOf : Cond.code yX8_shareOf cX8_shareOf 6 (some (FieldType.long)) ∈ wT := wT_mem (n := 335) (by decide +kernel) rfl
theorem twm_RX8_137 : Cond.methodLink RX8 137 yX2_add ∈ wT := wT_mem (n := 336) (by decide +kernel) rfl
theorem twi_yX2_add : Cond.instanceMethod yX2_add ∈ wT := wT_mem (n := 337) (by decide +kernel) rfl
theorem tws_yX2_add : Cond.selects RX2 yX2_add yX2_add ∈ wT := wT_mem (n := 338) (by decide +kernel) rfl
theorem two_yX2_add : Cond.code yX2_add cX2_add 6 none ∈ wT := wT_mem (n := 339) (by decide +kernel) rfl
theorem twm_RX2_24 : Cond.methodLink RX2 24 yX3_linkOf ∈ wT := wT_mem (n := 340) (by decide +kernel) rfl
theorem twi_yX3_linkOf : Cond.static yX3_linkOf ∈ wT := wT_mem (n := 341) (by decide +kernel) rfl
theorem two_yX3_linkOf : Cond.code yX3_linkOf cX3_linkOf 6 (some (FieldType.int)) ∈ wT := wT_mem (n := 342) (by decide +kernel) rfl
theorem twl_RX3_30 : Cond.constantLong RX3 30 (31) ∈ wT := wT_mem (n := 343) (by decide +kernel) rfl
theorem twl_RX3_32 : Cond.constantLong RX3 32 (7) ∈ wT := wT_mem (n := 344) (by decide +kernel) rfl
theorem twl_RX3_34 : Cond.constantLong RX3 34 (5) ∈ wT := wT_mem (n := 345) (by decide +kernel) rfl
theorem twl_RX3_36 : Cond.constantLong RX3 36 (3) ∈ wT := wT_mem (n := 346) (by decide +kernel) rfl
theorem twl_RX3_38 : Cond.constantLong RX3 38 (1000003) ∈ wT := wT_mem (n := 347) (by decide +kernel) rfl
theorem twt_RX3 : Cond.instantiable RX3 5 ∈ wT := wT_mem (n := 348) (by decide +kernel) rfl
theorem twm_RX2_28 : Cond.methodLink RX2 28 yX3_init ∈ wT := wT_mem (n := 349) (by decide +kernel) rfl
theorem twi_yX3_init : Cond.instanceMethod yX3_init ∈ wT := wT_mem (n := 350) (by decide +kernel) rfl
theorem two_yX3_init : Cond.code yX3_init cX3_init 7 none ∈ wT := wT_mem (n := 351) (by decide +kernel) rfl
theorem twm_RX3_1 : Cond.methodLink RX3 1 objectInit ∈ wT := wT_mem (n := 352) (by decide +kernel) rfl
theorem twf_RX3_7 : Cond.fieldLink RX3 7 "ClockAuctions$Entry" "sort" "I" ∈ wT := wT_mem (n := 353) (by decide +kernel) rfl
theorem twf_RX8_289 : Cond.fieldLink RX8 289 "ClockAuctions$Entry" "sort" "I" ∈ wT := wT_mem (n := 354) (by decide +kernel) rfl
theorem twf_RX3_13 : Cond.fieldLink RX3 13 "ClockAuctions$Entry" "lot" "I" ∈ wT := wT_mem (n := 355) (by decide +kernel) rfl
theorem twf_RX8_294 : Cond.fieldLink RX8 294 "ClockAuctions$Entry" "lot" "I" ∈ wT := wT_mem (n := 356) (by decide +kernel) rfl
theorem twf_RX3_16 : Cond.fieldLink RX3 16 "ClockAuctions$Entry" "buyer" "I" ∈ wT := wT_mem (n := 357) (by decide +kernel) rfl
theorem twf_RX8_296 : Cond.fieldLink RX8 296 "ClockAuctions$Entry" "buyer" "I" ∈ wT := wT_mem (n := 358) (by decide +kernel) rfl
theorem twf_RX3_19 : Cond.fieldLink RX3 19 "ClockAuctions$Entry" "cents" "J" ∈ wT := wT_mem (n := 359) (by decide +kernel) rfl
theorem twf_RX8_299 : Cond.fieldLink RX8 299 "ClockAuctions$Entry" "cents" "J" ∈ wT := wT_mem (n := 360) (by decide +kernel) rfl
theorem twf_RX3_23 : Cond.fieldLink RX3 23 "ClockAuctions$Entry" "link" "I" ∈ wT := wT_mem (n := 361) (by decide +kernel) rfl
theorem twf_RX2_35 : Cond.fieldLink RX2 35 "ClockAuctions$Entry" "link" "I" ∈ wT := wT_mem (n := 362) (by decide +kernel) rfl
theorem twf_RX8_300 : Cond.fieldLink RX8 300 "ClockAuctions$Entry" "link" "I" ∈ wT := wT_mem (n := 363) (by decide +kernel) rfl
theorem twm_RL_107 : Cond.methodLink RL 107 yX8_again ∈ wT := wT_mem (n := 375) (by decide +kernel) rfl
theorem twi_yX8_again : Cond.instanceMethod yX8_again ∈ wT := wT_mem (n := 376) (by decide +kernel) rfl
theorem tws_yX8_again : Cond.selects RX8 yX8_again yX8_again ∈ wT := wT_mem (n := 377) (by decide +kernel) rfl
theorem two_yX8_again : Cond.code yX8_again cX8_again 3 (some (FieldType.int)) ∈ wT := wT_mem (n := 378) (by decide +kernel) rfl
theorem twf_RX8_147 : Cond.fieldLink RX8 147 "ClockAuctions$State" "UNSOLD" "LClockAuctions$State;" ∈ wT := wT_mem (n := 379) (by decide +kernel) rfl
theorem twl_RX8_153 : Cond.constantLong RX8 153 (10) ∈ wT := wT_mem (n := 381) (by decide +kernel) rfl
theorem twf_RX8_155 : Cond.fieldLink RX8 155 "ClockAuctions$State" "OPEN" "LClockAuctions$State;" ∈ wT := wT_mem (n := 382) (by decide +kernel) rfl
theorem twm_RL_128 : Cond.methodLink RL 128 yX8_back ∈ wT := wT_mem (n := 383) (by decide +kernel) rfl
theorem twi_yX8_back : Cond.instanceMethod yX8_back ∈ wT := wT_mem (n := 384) (by decide +kernel) rfl
theorem tws_yX8_back : Cond.selects RX8 yX8_back yX8_back ∈ wT := wT_mem (n := 385) (by decide +kernel) rfl
theorem two_yX8_back : Cond.code yX8_back cX8_back 3 (some (FieldType.int)) ∈ wT := wT_mem (n := 386) (by decide +kernel) rfl
theorem twm_RX8_158 : Cond.methodLink RX8 158 yX5_canGoBack ∈ wT := wT_mem (n := 387) (by decide +kernel) rfl
theorem twi_yX5_canGoBack : Cond.instanceMethod yX5_canGoBack ∈ wT := wT_mem (n := 388) (by decide +kernel) rfl
theorem tws_yX5_canGoBack : Cond.selects RX5 yX5_canGoBack yX5_canGoBack ∈ wT := wT_mem (n := 389) (by decide +kernel) rfl
theorem two_yX5_canGoBack : Cond.code yX5_canGoBack cX5_canGoBack 1 (some (FieldType.boolean)) ∈ wT := wT_mem (n := 390) (by decide +kernel) rfl
theorem twf_RX5_43 : Cond.fieldLink RX5 43 "ClockAuctions$State" "UNSOLD" "LClockAuctions$State;" ∈ wT := wT_mem (n := 391) (by decide +kernel) rfl
theorem twf_RX8_161 : Cond.fieldLink RX8 161 "ClockAuctions$State" "BACK" "LClockAuctions$State;" ∈ wT := wT_mem (n := 392) (by decide +kernel) rfl
theorem twm_RL_25 : Cond.methodLink RL 25 yX8_start ∈ wT := wT_mem (n := 394) (by decide +kernel) rfl
theorem twi_yX8_start : Cond.instanceMethod yX8_start ∈ wT := wT_mem (n := 395) (by decide +kernel) rfl
theorem tws_yX8_start : Cond.selects RX8 yX8_start yX8_start ∈ wT := wT_mem (n := 396) (by decide +kernel) rfl
theorem two_yX8_start : Cond.code yX8_start cX8_start 9 (some (FieldType.int)) ∈ wT := wT_mem (n := 397) (by decide +kernel) rfl
theorem twl_RX8_168 : Cond.constantLong RX8 168 (1000000) ∈ wT := wT_mem (n := 398) (by decide +kernel) rfl
theorem twm_RX8_170 : Cond.methodLink RX8 170 yX4_endOf ∈ wT := wT_mem (n := 399) (by decide +kernel) rfl
theorem twi_yX4_endOf : Cond.static yX4_endOf ∈ wT := wT_mem (n := 400) (by decide +kernel) rfl
theorem two_yX4_endOf : Cond.code yX4_endOf cX4_endOf 4 (some (FieldType.long)) ∈ wT := wT_mem (n := 401) (by decide +kernel) rfl
theorem twl_RX4_7 : Cond.constantLong RX4 7 (100) ∈ wT := wT_mem (n := 402) (by decide +kernel) rfl
theorem twl_RX8_174 : Cond.constantLong RX8 174 (10000000) ∈ wT := wT_mem (n := 403) (by decide +kernel) rfl
theorem twm_RX8_176 : Cond.methodLink RX8 176 yX4_begin ∈ wT := wT_mem (n := 404) (by decide +kernel) rfl
theorem twi_yX4_begin : Cond.instanceMethod yX4_begin ∈ wT := wT_mem (n := 405) (by decide +kernel) rfl
theorem tws_yX4_begin : Cond.selects RX4 yX4_begin yX4_begin ∈ wT := wT_mem (n := 406) (by decide +kernel) rfl
theorem two_yX4_begin : Cond.code yX4_begin cX4_begin 8 none ∈ wT := wT_mem (n := 407) (by decide +kernel) rfl
theorem twf_RX8_180 : Cond.fieldLink RX8 180 "ClockAuctions$State" "ON" "LClockAuctions$State;" ∈ wT := wT_mem (n := 408) (by decide +kernel) rfl
theorem twm_RL_34 : Cond.methodLink RL 34 yX8_delay ∈ wT := wT_mem (n := 410) (by decide +kernel) rfl
theorem twi_yX8_delay : Cond.instanceMethod yX8_delay ∈ wT := wT_mem (n := 411) (by decide +kernel) rfl
theorem tws_yX8_delay : Cond.selects RX8 yX8_delay yX8_delay ∈ wT := wT_mem (n := 412) (by decide +kernel) rfl
theorem two_yX8_delay : Cond.code yX8_delay cX8_delay 5 (some (FieldType.boolean)) ∈ wT := wT_mem (n := 413) (by decide +kernel) rfl
theorem twl_RX8_183 : Cond.constantLong RX8 183 (5000) ∈ wT := wT_mem (n := 414) (by decide +kernel) rfl
theorem twm_RL_29 : Cond.methodLink RL 29 yX8_press ∈ wT := wT_mem (n := 415) (by decide +kernel) rfl
theorem twi_yX8_press : Cond.instanceMethod yX8_press ∈ wT := wT_mem (n := 416) (by decide +kernel) rfl
theorem tws_yX8_press : Cond.selects RX8 yX8_press yX8_press ∈ wT := wT_mem (n := 417) (by decide +kernel) rfl
theorem two_yX8_press : Cond.code yX8_press cX8_press 7 (some (FieldType.boolean)) ∈ wT := wT_mem (n := 418) (by decide +kernel) rfl
theorem twl_RX8_191 : Cond.constantLong RX8 191 (20000000) ∈ wT := wT_mem (n := 419) (by decide +kernel) rfl
theorem twm_RX8_193 : Cond.methodLink RX8 193 yJ9_max_f86c9 ∈ wT := wT_mem (n := 420) (by decide +kernel) rfl
theorem twi_yJ9_max_f86c9 : Cond.static yJ9_max_f86c9 ∈ wT := wT_mem (n := 421) (by decide +kernel) rfl
theorem two_yJ9_max_f86c9 : Cond.code yJ9_max_f86c9 cJ9_max_f86c9 4 (some (FieldType.long)) ∈ wT := wT_mem (n := 422) (by decide +kernel) rfl
theorem twm_RX8_201 : Cond.methodLink RX8 201 yX1_hasPressUpTo ∈ wT := wT_mem (n := 423) (by decide +kernel) rfl
theorem twi_yX1_hasPressUpTo : Cond.instanceMethod yX1_hasPressUpTo ∈ wT := wT_mem (n := 424) (by decide +kernel) rfl
theorem tws_yX1_hasPressUpTo : Cond.selects RX1 yX1_hasPressUpTo yX1_hasPressUpTo ∈ wT := wT_mem (n := 425) (by decide +kernel) rfl
theorem two_yX1_hasPressUpTo : Cond.code yX1_hasPressUpTo cX1_hasPressUpTo 3 (some (FieldType.boolean)) ∈ wT := wT_mem (n := 426) (by decide +kernel) rfl
theorem twm_RL_38 : Cond.methodLink RL 38 yX8_tick ∈ wT := wT_mem (n := 427) (by decide +kernel) rfl
theorem twi_yX8_tick : Cond.instanceMethod yX8_tick ∈ wT := wT_mem (n := 428) (by decide +kernel) rfl
theorem tws_yX8_tick : Cond.selects RX8 yX8_tick yX8_tick ∈ wT := wT_mem (n := 429) (by decide +kernel) rfl
theorem two_yX8_tick : Cond.code yX8_tick cX8_tick 4 (some (FieldType.int)) ∈ wT := wT_mem (n := 430) (by decide +kernel) rfl
theorem twm_RX8_211 : Cond.methodLink RX8 211 yX8_runClock ∈ wT := wT_mem (n := 431) (by decide +kernel) rfl
theorem twi_yX8_runClock : Cond.instanceMethod yX8_runClock ∈ wT := wT_mem (n := 433) (by decide +kernel) rfl
theorem two_yX8_runClock : Cond.code yX8_runClock cX8_runClock 5 (some (FieldType.int)) ∈ wT := wT_mem (n := 434) (by decide +kernel) rfl
theorem twm_RX8_366 : Cond.methodLink RX8 366 yX4_goOn ∈ wT := wT_mem (n := 435) (by decide +kernel) rfl
theorem twi_yX4_goOn : Cond.instanceMethod yX4_goOn ∈ wT := wT_mem (n := 436) (by decide +kernel) rfl
theorem tws_yX4_goOn : Cond.selects RX4 yX4_goOn yX4_goOn ∈ wT := wT_mem (n := 437) (by decide +kernel) rfl
theorem two_yX4_goOn : Cond.code yX4_goOn cX4_goOn 3 none ∈ wT := wT_mem (n := 438) (by decide +kernel) rfl
theorem twm_RX4_32 : Cond.methodLink RX4 32 yJ9_min_f86c9 ∈ wT := wT_mem (n := 439) (by decide +kernel) rfl
theorem twi_yJ9_min_f86c9 : Cond.static yJ9_min_f86c9 ∈ wT := wT_mem (n := 440) (by decide +kernel) rfl
theorem two_yJ9_min_f86c9 : Cond.code yJ9_min_f86c9 cJ9_min_f86c9 4 (some (FieldType.long)) ∈ wT := wT_mem (n := 441) (by decide +kernel) rfl
theorem twm_RX8_369 : Cond.methodLink RX8 369 yX8_dropPressesThatCannotPay ∈ wT := wT_mem (n := 442) (by decide +kernel) rfl
theorem twi_yX8_dropPressesThatCannotPay : Cond.instanceMethod yX8_dropPressesThatCannotPay ∈ wT := wT_mem (n := 444) (by decide +kernel) rfl
theorem two_yX8_dropPressesThatCannotPay : Cond.code yX8_dropPressesThatCannotPay cX8_dropPressesThatCannotPay 3 none ∈ wT := wT_mem (n := 445) (by decide +kernel) rfl
theorem twm_RX8_228 : Cond.methodLink RX8 228 yX4_priceAt ∈ wT := wT_mem (n := 446) (by decide +kernel) rfl
theorem twi_yX4_priceAt : Cond.instanceMethod yX4_priceAt ∈ wT := wT_mem (n := 447) (by decide +kernel) rfl
theorem tws_yX4_priceAt : Cond.selects RX4 yX4_priceAt yX4_priceAt ∈ wT := wT_mem (n := 448) (by decide +kernel) rfl
theorem two_yX4_priceAt : Cond.code yX4_priceAt cX4_priceAt 3 (some (FieldType.long)) ∈ wT := wT_mem (n := 449) (by decide +kernel) rfl
theorem twm_RX8_384 : Cond.methodLink RX8 384 yX1_dropPress ∈ wT := wT_mem (n := 450) (by decide +kernel) rfl
theorem twi_yX1_dropPress : Cond.instanceMethod yX1_dropPress ∈ wT := wT_mem (n := 451) (by decide +kernel) rfl
theorem tws_yX1_dropPress : Cond.selects RX1 yX1_dropPress yX1_dropPress ∈ wT := wT_mem (n := 452) (by decide +kernel) rfl
theorem two_yX1_dropPress : Cond.code yX1_dropPress cX1_dropPress 1 none ∈ wT := wT_mem (n := 453) (by decide +kernel) rfl
theorem twm_RX8_372 : Cond.methodLink RX8 372 yX8_firstDuePress ∈ wT := wT_mem (n := 454) (by decide +kernel) rfl
theorem twi_yX8_firstDuePress : Cond.instanceMethod yX8_firstDuePress ∈ wT := wT_mem (n := 456) (by decide +kernel) rfl
theorem two_yX8_firstDuePress : Cond.code yX8_firstDuePress cX8_firstDuePress 4 (some ((FieldType.object "ClockAuctions$Buyer"))) ∈ wT := wT_mem (n := 457) (by decide +kernel) rfl
theorem twm_RX8_376 : Cond.methodLink RX8 376 yX8_sellByClock ∈ wT := wT_mem (n := 458) (by decide +kernel) rfl
theorem twi_yX8_sellByClock : Cond.instanceMethod yX8_sellByClock ∈ wT := wT_mem (n := 460) (by decide +kernel) rfl
theorem two_yX8_sellByClock : Cond.code yX8_sellByClock cX8_sellByClock 3 none ∈ wT := wT_mem (n := 461) (by decide +kernel) rfl
theorem twm_RX8_387 : Cond.methodLink RX8 387 yX8_pressesTiedWith ∈ wT := wT_mem (n := 462) (by decide +kernel) rfl
theorem twi_yX8_pressesTiedWith : Cond.instanceMethod yX8_pressesTiedWith ∈ wT := wT_mem (n := 464) (by decide +kernel) rfl
theorem two_yX8_pressesTiedWith : Cond.code yX8_pressesTiedWith cX8_pressesTiedWith 5 (some (FieldType.int)) ∈ wT := wT_mem (n := 465) (by decide +kernel) rfl
theorem twm_RX8_394 : Cond.methodLink RX8 394 yX5_sellTo ∈ wT := wT_mem (n := 466) (by decide +kernel) rfl
theorem twi_yX5_sellTo : Cond.instanceMethod yX5_sellTo ∈ wT := wT_mem (n := 467) (by decide +kernel) rfl
theorem tws_yX5_sellTo : Cond.selects RX5 yX5_sellTo yX5_sellTo ∈ wT := wT_mem (n := 468) (by decide +kernel) rfl
theorem two_yX5_sellTo : Cond.code yX5_sellTo cX5_sellTo 4 none ∈ wT := wT_mem (n := 469) (by decide +kernel) rfl
theorem twm_RX8_380 : Cond.methodLink RX8 380 yX8_stopClock ∈ wT := wT_mem (n := 470) (by decide +kernel) rfl
theorem twi_yX8_stopClock : Cond.instanceMethod yX8_stopClock ∈ wT := wT_mem (n := 472) (by decide +kernel) rfl
theorem two_yX8_stopClock : Cond.code yX8_stopClock cX8_stopClock 1 none ∈ wT := wT_mem (n := 473) (by decide +kernel) rfl
theorem twm_RX8_225 : Cond.methodLink RX8 225 yX8_dropPressesFrom ∈ wT := wT_mem (n := 474) (by decide +kernel) rfl
theorem twi_yX8_dropPressesFrom : Cond.instanceMethod yX8_dropPressesFrom ∈ wT := wT_mem (n := 476) (by decide +kernel) rfl
theorem two_yX8_dropPressesFrom : Cond.code yX8_dropPressesFrom cX8_dropPressesFrom 5 none ∈ wT := wT_mem (n := 477) (by decide +kernel) rfl
theorem twm_RX8_215 : Cond.methodLink RX8 215 yX8_sellRipeOffers ∈ wT := wT_mem (n := 478) (by decide +kernel) rfl
theorem twi_yX8_sellRipeOffers : Cond.instanceMethod yX8_sellRipeOffers ∈ wT := wT_mem (n := 480) (by decide +kernel) rfl
theorem two_yX8_sellRipeOffers : Cond.code yX8_sellRipeOffers cX8_sellRipeOffers 3 none ∈ wT := wT_mem (n := 481) (by decide +kernel) rfl
theorem twf_RX8_235 : Cond.fieldLink RX8 235 "ClockAuctions$State" "OFFERED" "LClockAuctions$State;" ∈ wT := wT_mem (n := 482) (by decide +kernel) rfl
theorem twl_RX8_397 : Cond.constantLong RX8 397 (10000) ∈ wT := wT_mem (n := 483) (by decide +kernel) rfl
theorem twm_RL_61 : Cond.methodLink RL 61 yX8_outage ∈ wT := wT_mem (n := 484) (by decide +kernel) rfl
theorem twi_yX8_outage : Cond.instanceMethod yX8_outage ∈ wT := wT_mem (n := 485) (by decide +kernel) rfl
theorem tws_yX8_outage : Cond.selects RX8 yX8_outage yX8_outage ∈ wT := wT_mem (n := 486) (by decide +kernel) rfl
theorem two_yX8_outage : Cond.code yX8_outage cX8_outage 4 (some (FieldType.boolean)) ∈ wT := wT_mem (n := 487) (by decide +kernel) rfl
theorem twm_RX8_221 : Cond.methodLink RX8 221 yX4_goBackTo ∈ wT := wT_mem (n := 488) (by decide +kernel) rfl
theorem twi_yX4_goBackTo : Cond.instanceMethod yX4_goBackTo ∈ wT := wT_mem (n := 489) (by decide +kernel) rfl
theorem tws_yX4_goBackTo : Cond.selects RX4 yX4_goBackTo yX4_goBackTo ∈ wT := wT_mem (n := 490) (by decide +kernel) rfl
theorem two_yX4_goBackTo : Cond.code yX4_goBackTo cX4_goBackTo 3 none ∈ wT := wT_mem (n := 491) (by decide +kernel) rfl
theorem twm_RL_66 : Cond.methodLink RL 66 yX8_clock ∈ wT := wT_mem (n := 492) (by decide +kernel) rfl
theorem twi_yX8_clock : Cond.instanceMethod yX8_clock ∈ wT := wT_mem (n := 493) (by decide +kernel) rfl
theorem tws_yX8_clock : Cond.selects RX8 yX8_clock yX8_clock ∈ wT := wT_mem (n := 494) (by decide +kernel) rfl
theorem two_yX8_clock : Cond.code yX8_clock cX8_clock 1 (some (FieldType.long)) ∈ wT := wT_mem (n := 495) (by decide +kernel) rfl
theorem twm_RL_137 : Cond.methodLink RL 137 yX8_tie ∈ wT := wT_mem (n := 496) (by decide +kernel) rfl
theorem twi_yX8_tie : Cond.instanceMethod yX8_tie ∈ wT := wT_mem (n := 497) (by decide +kernel) rfl
theorem tws_yX8_tie : Cond.selects RX8 yX8_tie yX8_tie ∈ wT := wT_mem (n := 498) (by decide +kernel) rfl
theorem two_yX8_tie : Cond.code yX8_tie cX8_tie 6 (some (FieldType.int)) ∈ wT := wT_mem (n := 499) (by decide +kernel) rfl
theorem twm_RX8_232 : Cond.methodLink RX8 232 yX5_isTiedWith ∈ wT := wT_mem (n := 500) (by decide +kernel) rfl
theorem twi_yX5_isTiedWith : Cond.instanceMethod yX5_isTiedWith ∈ wT := wT_mem (n := 501) (by decide +kernel) rfl
theorem tws_yX5_isTiedWith : Cond.selects RX5 yX5_isTiedWith yX5_isTiedWith ∈ wT := wT_mem (n := 502) (by decide +kernel) rfl
theorem two_yX5_isTiedWith : Cond.code yX5_isTiedWith cX5_isTiedWith 2 (some (FieldType.boolean)) ∈ wT := wT_mem (n := 503) (by decide +kernel) rfl
theorem twm_RL_71 : Cond.methodLink RL 71 yX8_rise ∈ wT := wT_mem (n := 504) (by decide +kernel) rfl
theorem twi_yX8_rise : Cond.instanceMethod yX8_rise ∈ wT := wT_mem (n := 505) (by decide +kernel) rfl
theorem tws_yX8_rise : Cond.selects RX8 yX8_rise yX8_rise ∈ wT := wT_mem (n := 506) (by decide +kernel) rfl
theorem two_yX8_rise : Cond.code yX8_rise cX8_rise 7 (some (FieldType.int)) ∈ wT := wT_mem (n := 507) (by decide +kernel) rfl
theorem twm_RX8_238 : Cond.methodLink RX8 238 yX5_leastOffer ∈ wT := wT_mem (n := 508) (by decide +kernel) rfl
theorem twi_yX5_leastOffer : Cond.instanceMethod yX5_leastOffer ∈ wT := wT_mem (n := 509) (by decide +kernel) rfl
theorem tws_yX5_leastOffer : Cond.selects RX5 yX5_leastOffer yX5_leastOffer ∈ wT := wT_mem (n := 510) (by decide +kernel) rfl
theorem two_yX5_leastOffer : Cond.code yX5_leastOffer cX5_leastOffer 1 (some (FieldType.long)) ∈ wT := wT_mem (n := 511) (by decide +kernel) rfl
theorem twl_RX5_52 : Cond.constantLong RX5 52 (20) ∈ wT := wT_mem (n := 512) (by decide +kernel) rfl
theorem twm_RX5_54 : Cond.methodLink RX5 54 yJ9_max_f86c9 ∈ wT := wT_mem (n := 513) (by decide +kernel) rfl
theorem twm_RX8_242 : Cond.methodLink RX8 242 yX5_offerOf ∈ wT := wT_mem (n := 514) (by decide +kernel) rfl
theorem twi_yX5_offerOf : Cond.instanceMethod yX5_offerOf ∈ wT := wT_mem (n := 515) (by decide +kernel) rfl
theorem tws_yX5_offerOf : Cond.selects RX5 yX5_offerOf yX5_offerOf ∈ wT := wT_mem (n := 516) (by decide +kernel) rfl
theorem two_yX5_offerOf : Cond.code yX5_offerOf cX5_offerOf 2 (some (FieldType.long)) ∈ wT := wT_mem (n := 517) (by decide +kernel) rfl
theorem twm_RL_76 : Cond.methodLink RL 76 yX8_bid ∈ wT := wT_mem (n := 518) (by decide +kernel) rfl
theorem twi_yX8_bid : Cond.instanceMethod yX8_bid ∈ wT := wT_mem (n := 519) (by decide +kernel) rfl
theorem tws_yX8_bid : Cond.selects RX8 yX8_bid yX8_bid ∈ wT := wT_mem (n := 520) (by decide +kernel) rfl
theorem two_yX8_bid : Cond.code yX8_bid cX8_bid 5 (some (FieldType.int)) ∈ wT := wT_mem (n := 521) (by decide +kernel) rfl
theorem twt_RX0 : Cond.instantiable RX0 4 ∈ wT := wT_mem (n := 522) (by decide +kernel) rfl
theorem twm_RX8_252 : Cond.methodLink RX8 252 yX0_init ∈ wT := wT_mem (n := 523) (by decide +kernel) rfl
theorem twi_yX0_init : Cond.instanceMethod yX0_init ∈ wT := wT_mem (n := 524) (by decide +kernel) rfl
theorem two_yX0_init : Cond.code yX0_init cX0_init 5 none ∈ wT := wT_mem (n := 525) (by decide +kernel) rfl
theorem twm_RX0_3 : Cond.methodLink RX0 3 objectInit ∈ wT := wT_mem (n := 526) (by decide +kernel) rfl
theorem twf_RX0_9 : Cond.fieldLink RX0 9 "ClockAuctions$Bid" "number" "I" ∈ wT := wT_mem (n := 527) (by decide +kernel) rfl
theorem twf_RX6_73 : Cond.fieldLink RX6 73 "ClockAuctions$Bid" "number" "I" ∈ wT := wT_mem (n := 528) (by decide +kernel) rfl
theorem twf_RX0_15 : Cond.fieldLink RX0 15 "ClockAuctions$Bid" "buyer" "I" ∈ wT := wT_mem (n := 529) (by decide +kernel) rfl
theorem twf_RX6_66 : Cond.fieldLink RX6 66 "ClockAuctions$Bid" "buyer" "I" ∈ wT := wT_mem (n := 530) (by decide +kernel) rfl
theorem twf_RX8_418 : Cond.fieldLink RX8 418 "ClockAuctions$Bid" "buyer" "I" ∈ wT := wT_mem (n := 531) (by decide +kernel) rfl
theorem twf_RX0_18 : Cond.fieldLink RX0 18 "ClockAuctions$Bid" "cents" "J" ∈ wT := wT_mem (n := 532) (by decide +kernel) rfl
theorem twf_RX6_48 : Cond.fieldLink RX6 48 "ClockAuctions$Bid" "cents" "J" ∈ wT := wT_mem (n := 533) (by decide +kernel) rfl
theorem twf_RX8_417 : Cond.fieldLink RX8 417 "ClockAuctions$Bid" "cents" "J" ∈ wT := wT_mem (n := 534) (by decide +kernel) rfl
theorem twf_RX0_22 : Cond.fieldLink RX0 22 "ClockAuctions$Bid" "lotSet" "J" ∈ wT := wT_mem (n := 535) (by decide +kernel) rfl
theorem twf_RX6_63 : Cond.fieldLink RX6 63 "ClockAuctions$Bid" "lotSet" "J" ∈ wT := wT_mem (n := 536) (by decide +kernel) rfl
theorem twf_RX8_414 : Cond.fieldLink RX8 414 "ClockAuctions$Bid" "lotSet" "J" ∈ wT := wT_mem (n := 537) (by decide +kernel) rfl
theorem twm_RL_80 : Cond.methodLink RL 80 yX8_on ∈ wT := wT_mem (n := 547) (by decide +kernel) rfl
theorem twi_yX8_on : Cond.instanceMethod yX8_on ∈ wT := wT_mem (n := 548) (by decide +kernel) rfl
theorem tws_yX8_on : Cond.selects RX8 yX8_on yX8_on ∈ wT := wT_mem (n := 549) (by decide +kernel) rfl
theorem two_yX8_on : Cond.code yX8_on cX8_on 5 (some (FieldType.boolean)) ∈ wT := wT_mem (n := 550) (by decide +kernel) rfl
theorem twm_RX8_255 : Cond.methodLink RX8 255 yX8_bidAt ∈ wT := wT_mem (n := 551) (by decide +kernel) rfl
theorem twi_yX8_bidAt : Cond.instanceMethod yX8_bidAt ∈ wT := wT_mem (n := 553) (by decide +kernel) rfl
theorem two_yX8_bidAt : Cond.code yX8_bidAt cX8_bidAt 2 (some ((FieldType.object "ClockAuctions$Bid"))) ∈ wT := wT_mem (n := 554) (by decide +kernel) rfl
theorem twm_RX8_259 : Cond.methodLink RX8 259 yX0_isFor ∈ wT := wT_mem (n := 555) (by decide +kernel) rfl
theorem twi_yX0_isFor : Cond.instanceMethod yX0_isFor ∈ wT := wT_mem (n := 556) (by decide +kernel) rfl
theorem tws_yX0_isFor : Cond.selects RX0 yX0_isFor yX0_isFor ∈ wT := wT_mem (n := 557) (by decide +kernel) rfl
theorem two_yX0_isFor : Cond.code yX0_isFor cX0_isFor 2 (some (FieldType.boolean)) ∈ wT := wT_mem (n := 558) (by decide +kernel) rfl
theorem twm_RX8_262 : Cond.methodLink RX8 262 yX0_addLot ∈ wT := wT_mem (n := 559) (by decide +kernel) rfl
theorem twi_yX0_addLot : Cond.instanceMethod yX0_addLot ∈ wT := wT_mem (n := 560) (by decide +kernel) rfl
theorem tws_yX0_addLot : Cond.selects RX0 yX0_addLot yX0_addLot ∈ wT := wT_mem (n := 561) (by decide +kernel) rfl
theorem two_yX0_addLot : Cond.code yX0_addLot cX0_addLot 2 none ∈ wT := wT_mem (n := 562) (by decide +kernel) rfl
theorem twm_RL_85 : Cond.methodLink RL 85 yX8_sets ∈ wT := wT_mem (n := 563) (by decide +kernel) rfl
theorem twi_yX8_sets : Cond.instanceMethod yX8_sets ∈ wT := wT_mem (n := 564) (by decide +kernel) rfl
theorem tws_yX8_sets : Cond.selects RX8 yX8_sets yX8_sets ∈ wT := wT_mem (n := 565) (by decide +kernel) rfl
theorem two_yX8_sets : Cond.code yX8_sets cX8_sets 5 (some (FieldType.int)) ∈ wT := wT_mem (n := 566) (by decide +kernel) rfl
theorem twm_RX8_268 : Cond.methodLink RX8 268 yX8_findWinners ∈ wT := wT_mem (n := 567) (by decide +kernel) rfl
theorem twi_yX8_findWinners : Cond.instanceMethod yX8_findWinners ∈ wT := wT_mem (n := 569) (by decide +kernel) rfl
theorem two_yX8_findWinners : Cond.code yX8_findWinners cX8_findWinners 3 none ∈ wT := wT_mem (n := 570) (by decide +kernel) rfl
theorem twm_RX8_399 : Cond.methodLink RX8 399 yX6_clear ∈ wT := wT_mem (n := 571) (by decide +kernel) rfl
theorem twi_yX6_clear : Cond.instanceMethod yX6_clear ∈ wT := wT_mem (n := 572) (by decide +kernel) rfl
theorem tws_yX6_clear : Cond.selects RX6 yX6_clear yX6_clear ∈ wT := wT_mem (n := 573) (by decide +kernel) rfl
theorem two_yX6_clear : Cond.code yX6_clear cX6_clear 1 none ∈ wT := wT_mem (n := 574) (by decide +kernel) rfl
theorem twm_RX8_402 : Cond.methodLink RX8 402 yX6_setPurse ∈ wT := wT_mem (n := 575) (by decide +kernel) rfl
theorem twi_yX6_setPurse : Cond.instanceMethod yX6_setPurse ∈ wT := wT_mem (n := 576) (by decide +kernel) rfl
theorem tws_yX6_setPurse : Cond.selects RX6 yX6_setPurse yX6_setPurse ∈ wT := wT_mem (n := 577) (by decide +kernel) rfl
theorem two_yX6_setPurse : Cond.code yX6_setPurse cX6_setPurse 4 none ∈ wT := wT_mem (n := 578) (by decide +kernel) rfl
theorem twm_RX8_405 : Cond.methodLink RX8 405 yX8_isGood ∈ wT := wT_mem (n := 579) (by decide +kernel) rfl
theorem twi_yX8_isGood : Cond.instanceMethod yX8_isGood ∈ wT := wT_mem (n := 581) (by decide +kernel) rfl
theorem two_yX8_isGood : Cond.code yX8_isGood cX8_isGood 6 (some (FieldType.boolean)) ∈ wT := wT_mem (n := 582) (by decide +kernel) rfl
theorem twm_RX8_409 : Cond.methodLink RX8 409 yX6_add ∈ wT := wT_mem (n := 583) (by decide +kernel) rfl
theorem twi_yX6_add : Cond.instanceMethod yX6_add ∈ wT := wT_mem (n := 584) (by decide +kernel) rfl
theorem tws_yX6_add : Cond.selects RX6 yX6_add yX6_add ∈ wT := wT_mem (n := 585) (by decide +kernel) rfl
theorem two_yX6_add : Cond.code yX6_add cX6_add 2 none ∈ wT := wT_mem (n := 586) (by decide +kernel) rfl
theorem twm_RX8_411 : Cond.methodLink RX8 411 yX6_find ∈ wT := wT_mem (n := 587) (by decide +kernel) rfl
theorem twi_yX6_find : Cond.instanceMethod yX6_find ∈ wT := wT_mem (n := 588) (by decide +kernel) rfl
theorem tws_yX6_find : Cond.selects RX6 yX6_find yX6_find ∈ wT := wT_mem (n := 589) (by decide +kernel) rfl
theorem two_yX6_find : Cond.code yX6_find cX6_find 1 none ∈ wT := wT_mem (n := 590) (by decide +kernel) rfl
theorem twm_RX6_41 : Cond.methodLink RX6 41 yX6_addUpRests ∈ wT := wT_mem (n := 591) (by decide +kernel) rfl
theorem twi_yX6_addUpRests : Cond.instanceMethod yX6_addUpRests ∈ wT := wT_mem (n := 593) (by decide +kernel) rfl
theorem two_yX6_addUpRests : Cond.code yX6_addUpRests cX6_addUpRests 4 none ∈ wT := wT_mem (n := 594) (by decide +kernel) rfl
theorem twm_RX6_44 : Cond.methodLink RX6 44 yX6_tryFrom ∈ wT := wT_mem (n := 595) (by decide +kernel) rfl
theorem twi_yX6_tryFrom : Cond.static yX6_tryFrom ∈ wT := wT_mem (n := 596) (by decide +kernel) rfl
theorem two_yX6_tryFrom : Cond.code yX6_tryFrom cX6_tryFrom 8 none ∈ wT := wT_mem (n := 597) (by decide +kernel) rfl
theorem twm_RX6_51 : Cond.methodLink RX6 51 yX6_isBetter ∈ wT := wT_mem (n := 598) (by decide +kernel) rfl
theorem twi_yX6_isBetter : Cond.instanceMethod yX6_isBetter ∈ wT := wT_mem (n := 600) (by decide +kernel) rfl
theorem two_yX6_isBetter : Cond.code yX6_isBetter cX6_isBetter 4 (some (FieldType.boolean)) ∈ wT := wT_mem (n := 601) (by decide +kernel) rfl
theorem twm_RX6_35 : Cond.methodLink RX6 35 yJ6_bitCount_0f7a4 ∈ wT := wT_mem (n := 602) (by decide +kernel) rfl
theorem twi_yJ6_bitCount_0f7a4 : Cond.static yJ6_bitCount_0f7a4 ∈ wT := wT_mem (n := 603) (by decide +kernel) rfl
theorem two_yJ6_bitCount_0f7a4 : Cond.code yJ6_bitCount_0f7a4 cJ6_bitCount_0f7a4 1 (some (FieldType.int)) ∈ wT := wT_mem (n := 604) (by decide +kernel) rfl
theorem twk_RJ6_265 : Cond.constant RJ6 265 (1431655765) ∈ wT := wT_mem (n := 605) (by decide +kernel) rfl
theorem twk_RJ6_266 : Cond.constant RJ6 266 (858993459) ∈ wT := wT_mem (n := 606) (by decide +kernel) rfl
theorem twk_RJ6_267 : Cond.constant RJ6 267 (252645135) ∈ wT := wT_mem (n := 607) (by decide +kernel) rfl
theorem twm_RX6_76 : Cond.methodLink RX6 76 yX6_chosenCount ∈ wT := wT_mem (n := 608) (by decide +kernel) rfl
theorem twi_yX6_chosenCount : Cond.instanceMethod yX6_chosenCount ∈ wT := wT_mem (n := 609) (by decide +kernel) rfl
theorem tws_yX6_chosenCount : Cond.selects RX6 yX6_chosenCount yX6_chosenCount ∈ wT := wT_mem (n := 610) (by decide +kernel) rfl
theorem two_yX6_chosenCount : Cond.code yX6_chosenCount cX6_chosenCount 1 (some (FieldType.int)) ∈ wT := wT_mem (n := 611) (by decide +kernel) rfl
theorem twm_RX6_55 : Cond.methodLink RX6 55 yX6_goodAt ∈ wT := wT_mem (n := 612) (by decide +kernel) rfl
theorem twi_yX6_goodAt : Cond.instanceMethod yX6_goodAt ∈ wT := wT_mem (n := 614) (by decide +kernel) rfl
theorem two_yX6_goodAt : Cond.code yX6_goodAt cX6_goodAt 2 (some ((FieldType.object "ClockAuctions$Bid"))) ∈ wT := wT_mem (n := 615) (by decide +kernel) rfl
theorem twm_RX6_59 : Cond.methodLink RX6 59 yX6_restFrom ∈ wT := wT_mem (n := 616) (by decide +kernel) rfl
theorem twi_yX6_restFrom : Cond.instanceMethod yX6_restFrom ∈ wT := wT_mem (n := 618) (by decide +kernel) rfl
theorem two_yX6_restFrom : Cond.code yX6_restFrom cX6_restFrom 2 (some (FieldType.long)) ∈ wT := wT_mem (n := 619) (by decide +kernel) rfl
theorem twm_RX6_69 : Cond.methodLink RX6 69 yX6_spend ∈ wT := wT_mem (n := 620) (by decide +kernel) rfl
theorem twi_yX6_spend : Cond.instanceMethod yX6_spend ∈ wT := wT_mem (n := 622) (by decide +kernel) rfl
theorem two_yX6_spend : Cond.code yX6_spend cX6_spend 4 (some (FieldType.boolean)) ∈ wT := wT_mem (n := 623) (by decide +kernel) rfl
theorem twm_RX8_271 : Cond.methodLink RX8 271 yX6_hasChosen ∈ wT := wT_mem (n := 624) (by decide +kernel) rfl
theorem twi_yX6_hasChosen : Cond.instanceMethod yX6_hasChosen ∈ wT := wT_mem (n := 625) (by decide +kernel) rfl
theorem tws_yX6_hasChosen : Cond.selects RX6 yX6_hasChosen yX6_hasChosen ∈ wT := wT_mem (n := 626) (by decide +kernel) rfl
theorem two_yX6_hasChosen : Cond.code yX6_hasChosen cX6_hasChosen 2 (some (FieldType.boolean)) ∈ wT := wT_mem (n := 627) (by decide +kernel) rfl
theorem twm_RX8_274 : Cond.methodLink RX8 274 yX8_sellSet ∈ wT := wT_mem (n := 628) (by decide +kernel) rfl
theorem twi_yX8_sellSet : Cond.instanceMethod yX8_sellSet ∈ wT := wT_mem (n := 630) (by decide +kernel) rfl
theorem two_yX8_sellSet : Cond.code yX8_sellSet cX8_sellSet 6 none ∈ wT := wT_mem (n := 631) (by decide +kernel) rfl
theorem twm_RX8_278 : Cond.methodLink RX8 278 yX6_chosenCount ∈ wT := wT_mem (n := 632) (by decide +kernel) rfl
theorem twm_RL_89 : Cond.methodLink RL 89 yX8_wins ∈ wT := wT_mem (n := 633) (by decide +kernel) rfl
theorem twi_yX8_wins : Cond.instanceMethod yX8_wins ∈ wT := wT_mem (n := 634) (by decide +kernel) rfl
theorem tws_yX8_wins : Cond.selects RX8 yX8_wins yX8_wins ∈ wT := wT_mem (n := 635) (by decide +kernel) rfl
theorem two_yX8_wins : Cond.code yX8_wins cX8_wins 2 (some (FieldType.boolean)) ∈ wT := wT_mem (n := 636) (by decide +kernel) rfl
theorem twm_RL_94 : Cond.methodLink RL 94 yX8_sum ∈ wT := wT_mem (n := 637) (by decide +kernel) rfl
theorem twi_yX8_sum : Cond.instanceMethod yX8_sum ∈ wT := wT_mem (n := 638) (by decide +kernel) rfl
theorem tws_yX8_sum : Cond.selects RX8 yX8_sum yX8_sum ∈ wT := wT_mem (n := 639) (by decide +kernel) rfl
theorem two_yX8_sum : Cond.code yX8_sum cX8_sum 1 (some (FieldType.long)) ∈ wT := wT_mem (n := 640) (by decide +kernel) rfl
theorem twm_RL_98 : Cond.methodLink RL 98 yX8_proved ∈ wT := wT_mem (n := 641) (by decide +kernel) rfl
theorem twi_yX8_proved : Cond.instanceMethod yX8_proved ∈ wT := wT_mem (n := 642) (by decide +kernel) rfl
theorem tws_yX8_proved : Cond.selects RX8 yX8_proved yX8_proved ∈ wT := wT_mem (n := 643) (by decide +kernel) rfl
theorem two_yX8_proved : Cond.code yX8_proved cX8_proved 1 (some (FieldType.boolean)) ∈ wT := wT_mem (n := 644) (by decide +kernel) rfl
theorem twm_RL_115 : Cond.methodLink RL 115 yX8_record ∈ wT := wT_mem (n := 645) (by decide +kernel) rfl
theorem twi_yX8_record : Cond.instanceMethod yX8_record ∈ wT := wT_mem (n := 646) (by decide +kernel) rfl
theorem tws_yX8_record : Cond.selects RX8 yX8_record yX8_record ∈ wT := wT_mem (n := 647) (by decide +kernel) rfl
theorem two_yX8_record : Cond.code yX8_record cX8_record 4 (some (FieldType.int)) ∈ wT := wT_mem (n := 648) (by decide +kernel) rfl
theorem twm_RX8_285 : Cond.methodLink RX8 285 yX2_at ∈ wT := wT_mem (n := 649) (by decide +kernel) rfl
theorem twi_yX2_at : Cond.instanceMethod yX2_at ∈ wT := wT_mem (n := 650) (by decide +kernel) rfl
theorem tws_yX2_at : Cond.selects RX2 yX2_at yX2_at ∈ wT := wT_mem (n := 651) (by decide +kernel) rfl
theorem two_yX2_at : Cond.code yX2_at cX2_at 2 (some ((FieldType.object "ClockAuctions$Entry"))) ∈ wT := wT_mem (n := 652) (by decide +kernel) rfl
theorem twm_RL_120 : Cond.methodLink RL 120 yX8_chained ∈ wT := wT_mem (n := 653) (by decide +kernel) rfl
theorem twi_yX8_chained : Cond.instanceMethod yX8_chained ∈ wT := wT_mem (n := 654) (by decide +kernel) rfl
theorem tws_yX8_chained : Cond.selects RX8 yX8_chained yX8_chained ∈ wT := wT_mem (n := 655) (by decide +kernel) rfl
theorem two_yX8_chained : Cond.code yX8_chained cX8_chained 1 (some (FieldType.boolean)) ∈ wT := wT_mem (n := 656) (by decide +kernel) rfl
theorem twm_RX8_303 : Cond.methodLink RX8 303 yX2_isWhole ∈ wT := wT_mem (n := 657) (by decide +kernel) rfl
theorem twi_yX2_isWhole : Cond.instanceMethod yX2_isWhole ∈ wT := wT_mem (n := 658) (by decide +kernel) rfl
theorem tws_yX2_isWhole : Cond.selects RX2 yX2_isWhole yX2_isWhole ∈ wT := wT_mem (n := 659) (by decide +kernel) rfl
theorem two_yX2_isWhole : Cond.code yX2_isWhole cX2_isWhole 4 (some (FieldType.boolean)) ∈ wT := wT_mem (n := 660) (by decide +kernel) rfl
theorem twm_RX2_31 : Cond.methodLink RX2 31 yX2_at ∈ wT := wT_mem (n := 661) (by decide +kernel) rfl
theorem twm_RX2_38 : Cond.methodLink RX2 38 yX3_linkBehind ∈ wT := wT_mem (n := 662) (by decide +kernel) rfl
theorem twi_yX3_linkBehind : Cond.instanceMethod yX3_linkBehind ∈ wT := wT_mem (n := 663) (by decide +kernel) rfl
theorem tws_yX3_linkBehind : Cond.selects RX3 yX3_linkBehind yX3_linkBehind ∈ wT := wT_mem (n := 664) (by decide +kernel) rfl
theorem two_yX3_linkBehind : Cond.code yX3_linkBehind cX3_linkBehind 2 (some (FieldType.int)) ∈ wT := wT_mem (n := 665) (by decide +kernel) rfl
theorem twm_RX3_26 : Cond.methodLink RX3 26 yX3_linkOf ∈ wT := wT_mem (n := 666) (by decide +kernel) rfl
theorem twm_RL_132 : Cond.methodLink RL 132 yX8_play ∈ wT := wT_mem (n := 667) (by decide +kernel) rfl
theorem twi_yX8_play : Cond.instanceMethod yX8_play ∈ wT := wT_mem (n := 668) (by decide +kernel) rfl
theorem tws_yX8_play : Cond.selects RX8 yX8_play yX8_play ∈ wT := wT_mem (n := 669) (by decide +kernel) rfl
theorem two_yX8_play : Cond.code yX8_play cX8_play 7 (some (FieldType.int)) ∈ wT := wT_mem (n := 670) (by decide +kernel) rfl
theorem twl_RX8_306 : Cond.constantLong RX8 306 (200) ∈ wT := wT_mem (n := 671) (by decide +kernel) rfl
theorem twl_RX8_308 : Cond.constantLong RX8 308 (88172645463325252) ∈ wT := wT_mem (n := 672) (by decide +kernel) rfl
theorem twm_RX8_310 : Cond.methodLink RX8 310 yX8_playTurn ∈ wT := wT_mem (n := 673) (by decide +kernel) rfl
theorem twi_yX8_playTurn : Cond.instanceMethod yX8_playTurn ∈ wT := wT_mem (n := 675) (by decide +kernel) rfl
theorem two_yX8_playTurn : Cond.code yX8_playTurn cX8_playTurn 6 none ∈ wT := wT_mem (n := 676) (by decide +kernel) rfl
theorem twl_RX8_316 : Cond.constantLong RX8 316 (6) ∈ wT := wT_mem (n := 677) (by decide +kernel) rfl
theorem twl_RX8_318 : Cond.constantLong RX8 318 (64) ∈ wT := wT_mem (n := 678) (by decide +kernel) rfl
theorem twl_RX8_320 : Cond.constantLong RX8 320 (384) ∈ wT := wT_mem (n := 679) (by decide +kernel) rfl
theorem twl_RX8_322 : Cond.constantLong RX8 322 (100000) ∈ wT := wT_mem (n := 680) (by decide +kernel) rfl
theorem twl_RX8_324 : Cond.constantLong RX8 324 (3000) ∈ wT := wT_mem (n := 681) (by decide +kernel) rfl
theorem twm_RX8_326 : Cond.methodLink RX8 326 yX8_press ∈ wT := wT_mem (n := 682) (by decide +kernel) rfl
theorem twl_RX8_330 : Cond.constantLong RX8 330 (500) ∈ wT := wT_mem (n := 683) (by decide +kernel) rfl
theorem twm_RX8_332 : Cond.methodLink RX8 332 yX8_tick ∈ wT := wT_mem (n := 684) (by decide +kernel) rfl
theorem twl_RX8_335 : Cond.constantLong RX8 335 (97) ∈ wT := wT_mem (n := 685) (by decide +kernel) rfl
theorem twl_RX8_337 : Cond.constantLong RX8 337 (5) ∈ wT := wT_mem (n := 686) (by decide +kernel) rfl
theorem twm_RX8_339 : Cond.methodLink RX8 339 yX8_start ∈ wT := wT_mem (n := 687) (by decide +kernel) rfl
theorem twl_RX8_342 : Cond.constantLong RX8 342 (32) ∈ wT := wT_mem (n := 688) (by decide +kernel) rfl
theorem twm_RX8_344 : Cond.methodLink RX8 344 yX8_rise ∈ wT := wT_mem (n := 689) (by decide +kernel) rfl
theorem twm_RX8_348 : Cond.methodLink RX8 348 yX8_outage ∈ wT := wT_mem (n := 690) (by decide +kernel) rfl
theorem twm_RX8_352 : Cond.methodLink RX8 352 yX8_again ∈ wT := wT_mem (n := 691) (by decide +kernel) rfl
theorem twm_RX8_313 : Cond.methodLink RX8 313 yX8_soldCount ∈ wT := wT_mem (n := 692) (by decide +kernel) rfl
theorem twi_yX8_soldCount : Cond.instanceMethod yX8_soldCount ∈ wT := wT_mem (n := 694) (by decide +kernel) rfl
theorem two_yX8_soldCount : Cond.code yX8_soldCount cX8_soldCount 4 (some (FieldType.int)) ∈ wT := wT_mem (n := 695) (by decide +kernel) rfl
theorem twc_RL_10 : Cond.classLink RL 10 RX9 ∈ wT := wT_mem (n := 696) (by decide +kernel) rfl
theorem twt_RX9 : Cond.instantiable RX9 36 ∈ wT := wT_mem (n := 697) (by decide +kernel) rfl
theorem twm_RL_12 : Cond.methodLink RL 12 yX9_init ∈ wT := wT_mem (n := 698) (by decide +kernel) rfl
theorem twi_yX9_init : Cond.instanceMethod yX9_init ∈ wT := wT_mem (n := 699) (by decide +kernel) rfl
theorem two_yX9_init : Cond.code yX9_init cX9_init 1 none ∈ wT := wT_mem (n := 700) (by decide +kernel) rfl
theorem twm_RX9_1 : Cond.methodLink RX9 1 objectInit ∈ wT := wT_mem (n := 701) (by decide +kernel) rfl
theorem twf_RX9_82 : Cond.fieldLink RX9 82 "ClockAuctionsModel" "lots" "I" ∈ wT := wT_mem (n := 702) (by decide +kernel) rfl
theorem twf_RX9_7 : Cond.fieldLink RX9 7 "ClockAuctionsModel" "kind" "[I" ∈ wT := wT_mem (n := 703) (by decide +kernel) rfl
theorem twf_RX9_13 : Cond.fieldLink RX9 13 "ClockAuctionsModel" "grams" "[J" ∈ wT := wT_mem (n := 704) (by decide +kernel) rfl
theorem twf_RX9_17 : Cond.fieldLink RX9 17 "ClockAuctionsModel" "reserve" "[J" ∈ wT := wT_mem (n := 705) (by decide +kernel) rfl
theorem twf_RX9_20 : Cond.fieldLink RX9 20 "ClockAuctionsModel" "state" "[I" ∈ wT := wT_mem (n := 706) (by decide +kernel) rfl
theorem twf_RX9_23 : Cond.fieldLink RX9 23 "ClockAuctionsModel" "buyer" "[I" ∈ wT := wT_mem (n := 707) (by decide +kernel) rfl
theorem twf_RX9_26 : Cond.fieldLink RX9 26 "ClockAuctionsModel" "price" "[J" ∈ wT := wT_mem (n := 708) (by decide +kernel) rfl
theorem twf_RX9_29 : Cond.fieldLink RX9 29 "ClockAuctionsModel" "byClock" "[Z" ∈ wT := wT_mem (n := 709) (by decide +kernel) rfl
theorem twf_RX9_33 : Cond.fieldLink RX9 33 "ClockAuctionsModel" "parted" "[Z" ∈ wT := wT_mem (n := 710) (by decide +kernel) rfl
theorem twf_RX9_36 : Cond.fieldLink RX9 36 "ClockAuctionsModel" "reopened" "[Z" ∈ wT := wT_mem (n := 711) (by decide +kernel) rfl
theorem twf_RX9_39 : Cond.fieldLink RX9 39 "ClockAuctionsModel" "offeredAt" "[J" ∈ wT := wT_mem (n := 712) (by decide +kernel) rfl
theorem twf_RX9_42 : Cond.fieldLink RX9 42 "ClockAuctionsModel" "ties" "[I" ∈ wT := wT_mem (n := 713) (by decide +kernel) rfl
theorem twf_RX9_85 : Cond.fieldLink RX9 85 "ClockAuctionsModel" "buyers" "I" ∈ wT := wT_mem (n := 714) (by decide +kernel) rfl
theorem twf_RX9_45 : Cond.fieldLink RX9 45 "ClockAuctionsModel" "credit" "[J" ∈ wT := wT_mem (n := 715) (by decide +kernel) rfl
theorem twf_RX9_48 : Cond.fieldLink RX9 48 "ClockAuctionsModel" "delay" "[J" ∈ wT := wT_mem (n := 716) (by decide +kernel) rfl
theorem twf_RX9_51 : Cond.fieldLink RX9 51 "ClockAuctionsModel" "presses" "[J" ∈ wT := wT_mem (n := 717) (by decide +kernel) rfl
theorem twf_RX9_172 : Cond.fieldLink RX9 172 "ClockAuctionsModel" "day" "J" ∈ wT := wT_mem (n := 718) (by decide +kernel) rfl
theorem twf_RX9_54 : Cond.fieldLink RX9 54 "ClockAuctionsModel" "now" "I" ∈ wT := wT_mem (n := 719) (by decide +kernel) rfl
theorem twf_RX9_129 : Cond.fieldLink RX9 129 "ClockAuctionsModel" "time" "J" ∈ wT := wT_mem (n := 720) (by decide +kernel) rfl
theorem twf_RX9_133 : Cond.fieldLink RX9 133 "ClockAuctionsModel" "end" "J" ∈ wT := wT_mem (n := 721) (by decide +kernel) rfl
theorem twf_RX9_136 : Cond.fieldLink RX9 136 "ClockAuctionsModel" "from" "J" ∈ wT := wT_mem (n := 722) (by decide +kernel) rfl
theorem twf_RX9_139 : Cond.fieldLink RX9 139 "ClockAuctionsModel" "step" "J" ∈ wT := wT_mem (n := 723) (by decide +kernel) rfl
theorem twf_RX9_142 : Cond.fieldLink RX9 142 "ClockAuctionsModel" "stands" "Z" ∈ wT := wT_mem (n := 724) (by decide +kernel) rfl
theorem twf_RX9_196 : Cond.fieldLink RX9 196 "ClockAuctionsModel" "bids" "I" ∈ wT := wT_mem (n := 725) (by decide +kernel) rfl
theorem twf_RX9_58 : Cond.fieldLink RX9 58 "ClockAuctionsModel" "bidBuyer" "[I" ∈ wT := wT_mem (n := 726) (by decide +kernel) rfl
theorem twf_RX9_61 : Cond.fieldLink RX9 61 "ClockAuctionsModel" "bidCents" "[J" ∈ wT := wT_mem (n := 727) (by decide +kernel) rfl
theorem twf_RX9_64 : Cond.fieldLink RX9 64 "ClockAuctionsModel" "bidLots" "[J" ∈ wT := wT_mem (n := 728) (by decide +kernel) rfl
theorem twf_RX9_216 : Cond.fieldLink RX9 216 "ClockAuctionsModel" "winners" "I" ∈ wT := wT_mem (n := 729) (by decide +kernel) rfl
theorem twf_RX9_219 : Cond.fieldLink RX9 219 "ClockAuctionsModel" "sum" "J" ∈ wT := wT_mem (n := 730) (by decide +kernel) rfl
theorem twf_RX9_199 : Cond.fieldLink RX9 199 "ClockAuctionsModel" "proved" "Z" ∈ wT := wT_mem (n := 731) (by decide +kernel) rfl
theorem twf_RX9_98 : Cond.fieldLink RX9 98 "ClockAuctionsModel" "records" "I" ∈ wT := wT_mem (n := 732) (by decide +kernel) rfl
theorem twf_RX9_67 : Cond.fieldLink RX9 67 "ClockAuctionsModel" "sorts" "[I" ∈ wT := wT_mem (n := 733) (by decide +kernel) rfl
theorem twf_RX9_70 : Cond.fieldLink RX9 70 "ClockAuctionsModel" "recordLots" "[I" ∈ wT := wT_mem (n := 734) (by decide +kernel) rfl
theorem twf_RX9_73 : Cond.fieldLink RX9 73 "ClockAuctionsModel" "recordBuyers" "[I" ∈ wT := wT_mem (n := 735) (by decide +kernel) rfl
theorem twf_RX9_76 : Cond.fieldLink RX9 76 "ClockAuctionsModel" "recordPrices" "[J" ∈ wT := wT_mem (n := 736) (by decide +kernel) rfl
theorem twf_RX9_79 : Cond.fieldLink RX9 79 "ClockAuctionsModel" "chain" "[I" ∈ wT := wT_mem (n := 737) (by decide +kernel) rfl
theorem twa_int : Cond.arrayClass .int ∈ wT := wT_mem (n := 811) (by decide +kernel) rfl
theorem twa_boolean : Cond.arrayClass .boolean ∈ wT := wT_mem (n := 812) (by decide +kernel) rfl
theorem twm_RL_19 : Cond.methodLink RL 19 yX9_lot ∈ wT := wT_mem (n := 813) (by decide +kernel) rfl
theorem twi_yX9_lot : Cond.instanceMethod yX9_lot ∈ wT := wT_mem (n := 814) (by decide +kernel) rfl
theorem tws_yX9_lot : Cond.selects RX9 yX9_lot yX9_lot ∈ wT := wT_mem (n := 815) (by decide +kernel) rfl
theorem two_yX9_lot : Cond.code yX9_lot cX9_lot 6 (some (FieldType.int)) ∈ wT := wT_mem (n := 816) (by decide +kernel) rfl
theorem twl_RX9_109 : Cond.constantLong RX9 109 (1000000000) ∈ wT := wT_mem (n := 817) (by decide +kernel) rfl
theorem twm_RX9_111 : Cond.methodLink RX9 111 yX9_add ∈ wT := wT_mem (n := 818) (by decide +kernel) rfl
theorem twi_yX9_add : Cond.instanceMethod yX9_add ∈ wT := wT_mem (n := 820) (by decide +kernel) rfl
theorem two_yX9_add : Cond.code yX9_add cX9_add 6 (some (FieldType.int)) ∈ wT := wT_mem (n := 821) (by decide +kernel) rfl
theorem twm_RL_24 : Cond.methodLink RL 24 yX9_buyer ∈ wT := wT_mem (n := 822) (by decide +kernel) rfl
theorem twi_yX9_buyer : Cond.instanceMethod yX9_buyer ∈ wT := wT_mem (n := 823) (by decide +kernel) rfl
theorem tws_yX9_buyer : Cond.selects RX9 yX9_buyer yX9_buyer ∈ wT := wT_mem (n := 824) (by decide +kernel) rfl
theorem two_yX9_buyer : Cond.code yX9_buyer cX9_buyer 3 (some (FieldType.int)) ∈ wT := wT_mem (n := 825) (by decide +kernel) rfl
theorem twl_RX9_115 : Cond.constantLong RX9 115 (1000000000000) ∈ wT := wT_mem (n := 826) (by decide +kernel) rfl
theorem twl_RX9_117 : Cond.constantLong RX9 117 (-1) ∈ wT := wT_mem (n := 827) (by decide +kernel) rfl
theorem twm_RL_28 : Cond.methodLink RL 28 yX9_start ∈ wT := wT_mem (n := 828) (by decide +kernel) rfl
theorem twi_yX9_start : Cond.instanceMethod yX9_start ∈ wT := wT_mem (n := 829) (by decide +kernel) rfl
theorem tws_yX9_start : Cond.selects RX9 yX9_start yX9_start ∈ wT := wT_mem (n := 830) (by decide +kernel) rfl
theorem two_yX9_start : Cond.code yX9_start cX9_start 9 (some (FieldType.int)) ∈ wT := wT_mem (n := 831) (by decide +kernel) rfl
theorem twm_RX9_119 : Cond.methodLink RX9 119 yX9_isLot ∈ wT := wT_mem (n := 832) (by decide +kernel) rfl
theorem twi_yX9_isLot : Cond.instanceMethod yX9_isLot ∈ wT := wT_mem (n := 834) (by decide +kernel) rfl
theorem two_yX9_isLot : Cond.code yX9_isLot cX9_isLot 2 (some (FieldType.boolean)) ∈ wT := wT_mem (n := 835) (by decide +kernel) rfl
theorem twl_RX9_123 : Cond.constantLong RX9 123 (1000000) ∈ wT := wT_mem (n := 836) (by decide +kernel) rfl
theorem twl_RX9_125 : Cond.constantLong RX9 125 (100) ∈ wT := wT_mem (n := 837) (by decide +kernel) rfl
theorem twl_RX9_127 : Cond.constantLong RX9 127 (10000000) ∈ wT := wT_mem (n := 838) (by decide +kernel) rfl
theorem twm_RL_70 : Cond.methodLink RL 70 yX9_clock ∈ wT := wT_mem (n := 839) (by decide +kernel) rfl
theorem twi_yX9_clock : Cond.instanceMethod yX9_clock ∈ wT := wT_mem (n := 840) (by decide +kernel) rfl
theorem tws_yX9_clock : Cond.selects RX9 yX9_clock yX9_clock ∈ wT := wT_mem (n := 841) (by decide +kernel) rfl
theorem two_yX9_clock : Cond.code yX9_clock cX9_clock 1 (some (FieldType.long)) ∈ wT := wT_mem (n := 842) (by decide +kernel) rfl
theorem twm_RX9_146 : Cond.methodLink RX9 146 yX9_priceAt ∈ wT := wT_mem (n := 843) (by decide +kernel) rfl
theorem twi_yX9_priceAt : Cond.instanceMethod yX9_priceAt ∈ wT := wT_mem (n := 845) (by decide +kernel) rfl
theorem two_yX9_priceAt : Cond.code yX9_priceAt cX9_priceAt 3 (some (FieldType.long)) ∈ wT := wT_mem (n := 846) (by decide +kernel) rfl
theorem twm_RL_33 : Cond.methodLink RL 33 yX9_press ∈ wT := wT_mem (n := 847) (by decide +kernel) rfl
theorem twi_yX9_press : Cond.instanceMethod yX9_press ∈ wT := wT_mem (n := 848) (by decide +kernel) rfl
theorem tws_yX9_press : Cond.selects RX9 yX9_press yX9_press ∈ wT := wT_mem (n := 849) (by decide +kernel) rfl
theorem two_yX9_press : Cond.code yX9_press cX9_press 6 (some (FieldType.boolean)) ∈ wT := wT_mem (n := 850) (by decide +kernel) rfl
theorem twm_RX9_150 : Cond.methodLink RX9 150 yX9_isBuyer ∈ wT := wT_mem (n := 851) (by decide +kernel) rfl
theorem twi_yX9_isBuyer : Cond.instanceMethod yX9_isBuyer ∈ wT := wT_mem (n := 853) (by decide +kernel) rfl
theorem two_yX9_isBuyer : Cond.code yX9_isBuyer cX9_isBuyer 2 (some (FieldType.boolean)) ∈ wT := wT_mem (n := 854) (by decide +kernel) rfl
theorem twl_RX9_153 : Cond.constantLong RX9 153 (20000000) ∈ wT := wT_mem (n := 855) (by decide +kernel) rfl
theorem twm_RL_37 : Cond.methodLink RL 37 yX9_delay ∈ wT := wT_mem (n := 856) (by decide +kernel) rfl
theorem twi_yX9_delay : Cond.instanceMethod yX9_delay ∈ wT := wT_mem (n := 857) (by decide +kernel) rfl
theorem tws_yX9_delay : Cond.selects RX9 yX9_delay yX9_delay ∈ wT := wT_mem (n := 858) (by decide +kernel) rfl
theorem two_yX9_delay : Cond.code yX9_delay cX9_delay 4 (some (FieldType.boolean)) ∈ wT := wT_mem (n := 859) (by decide +kernel) rfl
theorem twl_RX9_155 : Cond.constantLong RX9 155 (5000) ∈ wT := wT_mem (n := 860) (by decide +kernel) rfl
theorem twm_RL_65 : Cond.methodLink RL 65 yX9_outage ∈ wT := wT_mem (n := 861) (by decide +kernel) rfl
theorem twi_yX9_outage : Cond.instanceMethod yX9_outage ∈ wT := wT_mem (n := 862) (by decide +kernel) rfl
theorem tws_yX9_outage : Cond.selects RX9 yX9_outage yX9_outage ∈ wT := wT_mem (n := 863) (by decide +kernel) rfl
theorem two_yX9_outage : Cond.code yX9_outage cX9_outage 5 (some (FieldType.boolean)) ∈ wT := wT_mem (n := 864) (by decide +kernel) rfl
theorem twm_RL_41 : Cond.methodLink RL 41 yX9_tick ∈ wT := wT_mem (n := 865) (by decide +kernel) rfl
theorem twi_yX9_tick : Cond.instanceMethod yX9_tick ∈ wT := wT_mem (n := 866) (by decide +kernel) rfl
theorem tws_yX9_tick : Cond.selects RX9 yX9_tick yX9_tick ∈ wT := wT_mem (n := 867) (by decide +kernel) rfl
theorem two_yX9_tick : Cond.code yX9_tick cX9_tick 5 (some (FieldType.int)) ∈ wT := wT_mem (n := 868) (by decide +kernel) rfl
theorem twm_RX9_175 : Cond.methodLink RX9 175 yX9_goOn ∈ wT := wT_mem (n := 869) (by decide +kernel) rfl
theorem twi_yX9_goOn : Cond.instanceMethod yX9_goOn ∈ wT := wT_mem (n := 871) (by decide +kernel) rfl
theorem two_yX9_goOn : Cond.code yX9_goOn cX9_goOn 4 (some (FieldType.int)) ∈ wT := wT_mem (n := 872) (by decide +kernel) rfl
theorem twm_RX9_164 : Cond.methodLink RX9 164 yX9_earliest ∈ wT := wT_mem (n := 873) (by decide +kernel) rfl
theorem twi_yX9_earliest : Cond.instanceMethod yX9_earliest ∈ wT := wT_mem (n := 875) (by decide +kernel) rfl
theorem two_yX9_earliest : Cond.code yX9_earliest cX9_earliest 3 (some (FieldType.int)) ∈ wT := wT_mem (n := 876) (by decide +kernel) rfl
theorem twm_RX9_157 : Cond.methodLink RX9 157 yX9_free ∈ wT := wT_mem (n := 877) (by decide +kernel) rfl
theorem twi_yX9_free : Cond.instanceMethod yX9_free ∈ wT := wT_mem (n := 879) (by decide +kernel) rfl
theorem two_yX9_free : Cond.code yX9_free cX9_free 2 (some (FieldType.long)) ∈ wT := wT_mem (n := 880) (by decide +kernel) rfl
theorem twm_RX9_105 : Cond.methodLink RX9 105 yX9_heldBy ∈ wT := wT_mem (n := 881) (by decide +kernel) rfl
theorem twi_yX9_heldBy : Cond.instanceMethod yX9_heldBy ∈ wT := wT_mem (n := 883) (by decide +kernel) rfl
theorem two_yX9_heldBy : Cond.code yX9_heldBy cX9_heldBy 5 (some (FieldType.long)) ∈ wT := wT_mem (n := 884) (by decide +kernel) rfl
theorem twm_RX9_168 : Cond.methodLink RX9 168 yX9_sell ∈ wT := wT_mem (n := 885) (by decide +kernel) rfl
theorem twi_yX9_sell : Cond.instanceMethod yX9_sell ∈ wT := wT_mem (n := 887) (by decide +kernel) rfl
theorem two_yX9_sell : Cond.code yX9_sell cX9_sell 8 none ∈ wT := wT_mem (n := 888) (by decide +kernel) rfl
theorem twm_RX9_160 : Cond.methodLink RX9 160 yX9_note ∈ wT := wT_mem (n := 889) (by decide +kernel) rfl
theorem twi_yX9_note : Cond.instanceMethod yX9_note ∈ wT := wT_mem (n := 891) (by decide +kernel) rfl
theorem two_yX9_note : Cond.code yX9_note cX9_note 6 none ∈ wT := wT_mem (n := 892) (by decide +kernel) rfl
theorem twm_RX9_101 : Cond.methodLink RX9 101 yX9_next ∈ wT := wT_mem (n := 893) (by decide +kernel) rfl
theorem twi_yX9_next : Cond.instanceMethod yX9_next ∈ wT := wT_mem (n := 895) (by decide +kernel) rfl
theorem two_yX9_next : Cond.code yX9_next cX9_next 7 (some (FieldType.int)) ∈ wT := wT_mem (n := 896) (by decide +kernel) rfl
theorem twl_RX9_88 : Cond.constantLong RX9 88 (31) ∈ wT := wT_mem (n := 897) (by decide +kernel) rfl
theorem twl_RX9_90 : Cond.constantLong RX9 90 (7) ∈ wT := wT_mem (n := 898) (by decide +kernel) rfl
theorem twl_RX9_92 : Cond.constantLong RX9 92 (5) ∈ wT := wT_mem (n := 899) (by decide +kernel) rfl
theorem twl_RX9_94 : Cond.constantLong RX9 94 (3) ∈ wT := wT_mem (n := 900) (by decide +kernel) rfl
theorem twl_RX9_96 : Cond.constantLong RX9 96 (1000003) ∈ wT := wT_mem (n := 901) (by decide +kernel) rfl
theorem twl_RX9_179 : Cond.constantLong RX9 179 (10000) ∈ wT := wT_mem (n := 902) (by decide +kernel) rfl
theorem twm_RL_140 : Cond.methodLink RL 140 yX9_tie ∈ wT := wT_mem (n := 903) (by decide +kernel) rfl
theorem twi_yX9_tie : Cond.instanceMethod yX9_tie ∈ wT := wT_mem (n := 904) (by decide +kernel) rfl
theorem tws_yX9_tie : Cond.selects RX9 yX9_tie yX9_tie ∈ wT := wT_mem (n := 905) (by decide +kernel) rfl
theorem two_yX9_tie : Cond.code yX9_tie cX9_tie 5 (some (FieldType.int)) ∈ wT := wT_mem (n := 906) (by decide +kernel) rfl
theorem twm_RL_46 : Cond.methodLink RL 46 yX9_winner ∈ wT := wT_mem (n := 907) (by decide +kernel) rfl
theorem twi_yX9_winner : Cond.instanceMethod yX9_winner ∈ wT := wT_mem (n := 908) (by decide +kernel) rfl
theorem tws_yX9_winner : Cond.selects RX9 yX9_winner yX9_winner ∈ wT := wT_mem (n := 909) (by decide +kernel) rfl
theorem two_yX9_winner : Cond.code yX9_winner cX9_winner 2 (some (FieldType.int)) ∈ wT := wT_mem (n := 910) (by decide +kernel) rfl
theorem twm_RX9_181 : Cond.methodLink RX9 181 yX9_isBought ∈ wT := wT_mem (n := 911) (by decide +kernel) rfl
theorem twi_yX9_isBought : Cond.instanceMethod yX9_isBought ∈ wT := wT_mem (n := 913) (by decide +kernel) rfl
theorem two_yX9_isBought : Cond.code yX9_isBought cX9_isBought 2 (some (FieldType.boolean)) ∈ wT := wT_mem (n := 914) (by decide +kernel) rfl
theorem twm_RL_51 : Cond.methodLink RL 51 yX9_price ∈ wT := wT_mem (n := 915) (by decide +kernel) rfl
theorem twi_yX9_price : Cond.instanceMethod yX9_price ∈ wT := wT_mem (n := 916) (by decide +kernel) rfl
theorem tws_yX9_price : Cond.selects RX9 yX9_price yX9_price ∈ wT := wT_mem (n := 917) (by decide +kernel) rfl
theorem two_yX9_price : Cond.code yX9_price cX9_price 2 (some (FieldType.long)) ∈ wT := wT_mem (n := 918) (by decide +kernel) rfl
theorem twm_RL_56 : Cond.methodLink RL 56 yX9_part ∈ wT := wT_mem (n := 919) (by decide +kernel) rfl
theorem twi_yX9_part : Cond.instanceMethod yX9_part ∈ wT := wT_mem (n := 920) (by decide +kernel) rfl
theorem tws_yX9_part : Cond.selects RX9 yX9_part yX9_part ∈ wT := wT_mem (n := 921) (by decide +kernel) rfl
theorem two_yX9_part : Cond.code yX9_part cX9_part 7 (some (FieldType.int)) ∈ wT := wT_mem (n := 922) (by decide +kernel) rfl
theorem twm_RX9_184 : Cond.methodLink RX9 184 yX9_up ∈ wT := wT_mem (n := 923) (by decide +kernel) rfl
theorem twi_yX9_up : Cond.static yX9_up ∈ wT := wT_mem (n := 924) (by decide +kernel) rfl
theorem two_yX9_up : Cond.code yX9_up cX9_up 4 (some (FieldType.long)) ∈ wT := wT_mem (n := 925) (by decide +kernel) rfl
theorem twm_RL_60 : Cond.methodLink RL 60 yX9_left ∈ wT := wT_mem (n := 926) (by decide +kernel) rfl
theorem twi_yX9_left : Cond.instanceMethod yX9_left ∈ wT := wT_mem (n := 927) (by decide +kernel) rfl
theorem tws_yX9_left : Cond.selects RX9 yX9_left yX9_left ∈ wT := wT_mem (n := 928) (by decide +kernel) rfl
theorem two_yX9_left : Cond.code yX9_left cX9_left 2 (some (FieldType.long)) ∈ wT := wT_mem (n := 929) (by decide +kernel) rfl
theorem twm_RL_110 : Cond.methodLink RL 110 yX9_again ∈ wT := wT_mem (n := 930) (by decide +kernel) rfl
theorem twi_yX9_again : Cond.instanceMethod yX9_again ∈ wT := wT_mem (n := 931) (by decide +kernel) rfl
theorem tws_yX9_again : Cond.selects RX9 yX9_again yX9_again ∈ wT := wT_mem (n := 932) (by decide +kernel) rfl
theorem two_yX9_again : Cond.code yX9_again cX9_again 2 (some (FieldType.int)) ∈ wT := wT_mem (n := 933) (by decide +kernel) rfl
theorem twl_RX9_188 : Cond.constantLong RX9 188 (10) ∈ wT := wT_mem (n := 934) (by decide +kernel) rfl
theorem twm_RL_131 : Cond.methodLink RL 131 yX9_back ∈ wT := wT_mem (n := 935) (by decide +kernel) rfl
theorem twi_yX9_back : Cond.instanceMethod yX9_back ∈ wT := wT_mem (n := 936) (by decide +kernel) rfl
theorem tws_yX9_back : Cond.selects RX9 yX9_back yX9_back ∈ wT := wT_mem (n := 937) (by decide +kernel) rfl
theorem two_yX9_back : Cond.code yX9_back cX9_back 2 (some (FieldType.int)) ∈ wT := wT_mem (n := 938) (by decide +kernel) rfl
theorem twm_RL_114 : Cond.methodLink RL 114 yX9_fee ∈ wT := wT_mem (n := 939) (by decide +kernel) rfl
theorem twi_yX9_fee : Cond.instanceMethod yX9_fee ∈ wT := wT_mem (n := 940) (by decide +kernel) rfl
theorem tws_yX9_fee : Cond.selects RX9 yX9_fee yX9_fee ∈ wT := wT_mem (n := 941) (by decide +kernel) rfl
theorem two_yX9_fee : Cond.code yX9_fee cX9_fee 2 (some (FieldType.long)) ∈ wT := wT_mem (n := 942) (by decide +kernel) rfl
theorem twl_RX9_190 : Cond.constantLong RX9 190 (50) ∈ wT := wT_mem (n := 943) (by decide +kernel) rfl
theorem twl_RX9_192 : Cond.constantLong RX9 192 (30) ∈ wT := wT_mem (n := 944) (by decide +kernel) rfl
theorem twm_RL_127 : Cond.methodLink RL 127 yX9_order ∈ wT := wT_mem (n := 945) (by decide +kernel) rfl
theorem twi_yX9_order : Cond.instanceMethod yX9_order ∈ wT := wT_mem (n := 946) (by decide +kernel) rfl
theorem tws_yX9_order : Cond.selects RX9 yX9_order yX9_order ∈ wT := wT_mem (n := 947) (by decide +kernel) rfl
theorem two_yX9_order : Cond.code yX9_order cX9_order 8 (some (FieldType.int)) ∈ wT := wT_mem (n := 948) (by decide +kernel) rfl
theorem twm_RL_106 : Cond.methodLink RL 106 yX9_held ∈ wT := wT_mem (n := 949) (by decide +kernel) rfl
theorem twi_yX9_held : Cond.instanceMethod yX9_held ∈ wT := wT_mem (n := 950) (by decide +kernel) rfl
theorem tws_yX9_held : Cond.selects RX9 yX9_held yX9_held ∈ wT := wT_mem (n := 951) (by decide +kernel) rfl
theorem two_yX9_held : Cond.code yX9_held cX9_held 2 (some (FieldType.long)) ∈ wT := wT_mem (n := 952) (by decide +kernel) rfl
theorem twm_RL_75 : Cond.methodLink RL 75 yX9_rise ∈ wT := wT_mem (n := 953) (by decide +kernel) rfl
theorem twi_yX9_rise : Cond.instanceMethod yX9_rise ∈ wT := wT_mem (n := 954) (by decide +kernel) rfl
theorem tws_yX9_rise : Cond.selects RX9 yX9_rise yX9_rise ∈ wT := wT_mem (n := 955) (by decide +kernel) rfl
theorem two_yX9_rise : Cond.code yX9_rise cX9_rise 11 (some (FieldType.int)) ∈ wT := wT_mem (n := 956) (by decide +kernel) rfl
theorem twl_RX9_194 : Cond.constantLong RX9 194 (20) ∈ wT := wT_mem (n := 957) (by decide +kernel) rfl
theorem twm_RL_79 : Cond.methodLink RL 79 yX9_bid ∈ wT := wT_mem (n := 958) (by decide +kernel) rfl
theorem twi_yX9_bid : Cond.instanceMethod yX9_bid ∈ wT := wT_mem (n := 959) (by decide +kernel) rfl
theorem tws_yX9_bid : Cond.selects RX9 yX9_bid yX9_bid ∈ wT := wT_mem (n := 960) (by decide +kernel) rfl
theorem two_yX9_bid : Cond.code yX9_bid cX9_bid 4 (some (FieldType.int)) ∈ wT := wT_mem (n := 961) (by decide +kernel) rfl
theorem twm_RL_84 : Cond.methodLink RL 84 yX9_on ∈ wT := wT_mem (n := 962) (by decide +kernel) rfl
theorem twi_yX9_on : Cond.instanceMethod yX9_on ∈ wT := wT_mem (n := 963) (by decide +kernel) rfl
theorem tws_yX9_on : Cond.selects RX9 yX9_on yX9_on ∈ wT := wT_mem (n := 964) (by decide +kernel) rfl
theorem two_yX9_on : Cond.code yX9_on cX9_on 3 (some (FieldType.boolean)) ∈ wT := wT_mem (n := 965) (by decide +kernel) rfl
theorem twm_RL_88 : Cond.methodLink RL 88 yX9_sets ∈ wT := wT_mem (n := 966) (by decide +kernel) rfl
theorem twi_yX9_sets : Cond.instanceMethod yX9_sets ∈ wT := wT_mem (n := 967) (by decide +kernel) rfl
theorem tws_yX9_sets : Cond.selects RX9 yX9_sets yX9_sets ∈ wT := wT_mem (n := 968) (by decide +kernel) rfl
theorem two_yX9_sets : Cond.code yX9_sets cX9_sets 11 (some (FieldType.int)) ∈ wT := wT_mem (n := 969) (by decide +kernel) rfl
theorem twm_RX9_202 : Cond.methodLink RX9 202 yX9_isGood ∈ wT := wT_mem (n := 970) (by decide +kernel) rfl
theorem twi_yX9_isGood : Cond.instanceMethod yX9_isGood ∈ wT := wT_mem (n := 972) (by decide +kernel) rfl
theorem two_yX9_isGood : Cond.code yX9_isGood cX9_isGood 6 (some (FieldType.boolean)) ∈ wT := wT_mem (n := 973) (by decide +kernel) rfl
theorem twm_RX9_205 : Cond.methodLink RX9 205 yX9_sumOf ∈ wT := wT_mem (n := 974) (by decide +kernel) rfl
theorem twi_yX9_sumOf : Cond.instanceMethod yX9_sumOf ∈ wT := wT_mem (n := 976) (by decide +kernel) rfl
theorem two_yX9_sumOf : Cond.code yX9_sumOf cX9_sumOf 10 (some (FieldType.long)) ∈ wT := wT_mem (n := 977) (by decide +kernel) rfl
theorem twm_RX9_208 : Cond.methodLink RX9 208 yX9_size ∈ wT := wT_mem (n := 978) (by decide +kernel) rfl
theorem twi_yX9_size : Cond.static yX9_size ∈ wT := wT_mem (n := 979) (by decide +kernel) rfl
theorem two_yX9_size : Cond.code yX9_size cX9_size 3 (some (FieldType.int)) ∈ wT := wT_mem (n := 980) (by decide +kernel) rfl
theorem twm_RX9_212 : Cond.methodLink RX9 212 yX9_isFirst ∈ wT := wT_mem (n := 981) (by decide +kernel) rfl
theorem twi_yX9_isFirst : Cond.static yX9_isFirst ∈ wT := wT_mem (n := 982) (by decide +kernel) rfl
theorem two_yX9_isFirst : Cond.code yX9_isFirst cX9_isFirst 3 (some (FieldType.boolean)) ∈ wT := wT_mem (n := 983) (by decide +kernel) rfl
theorem twm_RL_93 : Cond.methodLink RL 93 yX9_wins ∈ wT := wT_mem (n := 984) (by decide +kernel) rfl
theorem twi_yX9_wins : Cond.instanceMethod yX9_wins ∈ wT := wT_mem (n := 985) (by decide +kernel) rfl
theorem tws_yX9_wins : Cond.selects RX9 yX9_wins yX9_wins ∈ wT := wT_mem (n := 986) (by decide +kernel) rfl
theorem two_yX9_wins : Cond.code yX9_wins cX9_wins 2 (some (FieldType.boolean)) ∈ wT := wT_mem (n := 987) (by decide +kernel) rfl
theorem twm_RL_97 : Cond.methodLink RL 97 yX9_sum ∈ wT := wT_mem (n := 988) (by decide +kernel) rfl
theorem twi_yX9_sum : Cond.instanceMethod yX9_sum ∈ wT := wT_mem (n := 989) (by decide +kernel) rfl
theorem tws_yX9_sum : Cond.selects RX9 yX9_sum yX9_sum ∈ wT := wT_mem (n := 990) (by decide +kernel) rfl
theorem two_yX9_sum : Cond.code yX9_sum cX9_sum 1 (some (FieldType.long)) ∈ wT := wT_mem (n := 991) (by decide +kernel) rfl
theorem twm_RL_102 : Cond.methodLink RL 102 yX9_proved ∈ wT := wT_mem (n := 992) (by decide +kernel) rfl
theorem twi_yX9_proved : Cond.instanceMethod yX9_proved ∈ wT := wT_mem (n := 993) (by decide +kernel) rfl
theorem tws_yX9_proved : Cond.selects RX9 yX9_proved yX9_proved ∈ wT := wT_mem (n := 994) (by decide +kernel) rfl
theorem two_yX9_proved : Cond.code yX9_proved cX9_proved 1 (some (FieldType.boolean)) ∈ wT := wT_mem (n := 995) (by decide +kernel) rfl
theorem twm_RL_119 : Cond.methodLink RL 119 yX9_record ∈ wT := wT_mem (n := 996) (by decide +kernel) rfl
theorem twi_yX9_record : Cond.instanceMethod yX9_record ∈ wT := wT_mem (n := 997) (by decide +kernel) rfl
theorem tws_yX9_record : Cond.selects RX9 yX9_record yX9_record ∈ wT := wT_mem (n := 998) (by decide +kernel) rfl
theorem two_yX9_record : Cond.code yX9_record cX9_record 3 (some (FieldType.int)) ∈ wT := wT_mem (n := 999) (by decide +kernel) rfl
theorem twm_RL_123 : Cond.methodLink RL 123 yX9_chained ∈ wT := wT_mem (n := 1000) (by decide +kernel) rfl
theorem twi_yX9_chained : Cond.instanceMethod yX9_chained ∈ wT := wT_mem (n := 1001) (by decide +kernel) rfl
theorem tws_yX9_chained : Cond.selects RX9 yX9_chained yX9_chained ∈ wT := wT_mem (n := 1002) (by decide +kernel) rfl
theorem two_yX9_chained : Cond.code yX9_chained cX9_chained 4 (some (FieldType.boolean)) ∈ wT := wT_mem (n := 1003) (by decide +kernel) rfl
theorem twm_RL_136 : Cond.methodLink RL 136 yX9_play ∈ wT := wT_mem (n := 1004) (by decide +kernel) rfl
theorem twi_yX9_play : Cond.instanceMethod yX9_play ∈ wT := wT_mem (n := 1005) (by decide +kernel) rfl
theorem tws_yX9_play : Cond.selects RX9 yX9_play yX9_play ∈ wT := wT_mem (n := 1006) (by decide +kernel) rfl
theorem two_yX9_play : Cond.code yX9_play cX9_play 8 (some (FieldType.int)) ∈ wT := wT_mem (n := 1007) (by decide +kernel) rfl
theorem twl_RX9_259 : Cond.constantLong RX9 259 (88172645463325252) ∈ wT := wT_mem (n := 1008) (by decide +kernel) rfl
theorem twm_RX9_261 : Cond.methodLink RX9 261 yX9_turn ∈ wT := wT_mem (n := 1009) (by decide +kernel) rfl
theorem twi_yX9_turn : Cond.instanceMethod yX9_turn ∈ wT := wT_mem (n := 1011) (by decide +kernel) rfl
theorem two_yX9_turn : Cond.code yX9_turn cX9_turn 8 none ∈ wT := wT_mem (n := 1012) (by decide +kernel) rfl
theorem twl_RX9_222 : Cond.constantLong RX9 222 (6) ∈ wT := wT_mem (n := 1013) (by decide +kernel) rfl
theorem twl_RX9_224 : Cond.constantLong RX9 224 (64) ∈ wT := wT_mem (n := 1014) (by decide +kernel) rfl
theorem twl_RX9_226 : Cond.constantLong RX9 226 (384) ∈ wT := wT_mem (n := 1015) (by decide +kernel) rfl
theorem twl_RX9_228 : Cond.constantLong RX9 228 (100000) ∈ wT := wT_mem (n := 1016) (by decide +kernel) rfl
theorem twl_RX9_230 : Cond.constantLong RX9 230 (3000) ∈ wT := wT_mem (n := 1017) (by decide +kernel) rfl
theorem twm_RX9_232 : Cond.methodLink RX9 232 yX9_press ∈ wT := wT_mem (n := 1018) (by decide +kernel) rfl
theorem twl_RX9_236 : Cond.constantLong RX9 236 (500) ∈ wT := wT_mem (n := 1019) (by decide +kernel) rfl
theorem twm_RX9_238 : Cond.methodLink RX9 238 yX9_tick ∈ wT := wT_mem (n := 1020) (by decide +kernel) rfl
theorem twl_RX9_241 : Cond.constantLong RX9 241 (97) ∈ wT := wT_mem (n := 1021) (by decide +kernel) rfl
theorem twm_RX9_243 : Cond.methodLink RX9 243 yX9_start ∈ wT := wT_mem (n := 1022) (by decide +kernel) rfl
theorem twl_RX9_246 : Cond.constantLong RX9 246 (32) ∈ wT := wT_mem (n := 1023) (by decide +kernel) rfl
theorem twm_RX9_248 : Cond.methodLink RX9 248 yX9_rise ∈ wT := wT_mem (n := 1024) (by decide +kernel) rfl
theorem twm_RX9_252 : Cond.methodLink RX9 252 yX9_outage ∈ wT := wT_mem (n := 1025) (by decide +kernel) rfl
theorem twm_RX9_256 : Cond.methodLink RX9 256 yX9_again ∈ wT := wT_mem (n := 1026) (by decide +kernel) rfl
theorem twl_RL_13 : Cond.constantLong RL 13 (4294967295) ∈ wT := wT_mem (n := 1027) (by decide +kernel) rfl
theorem twu_RX0 : ∀ w ∈ u_ws RX0 TX0 4, w ∈ wT := wT_all (by decide +kernel)
theorem twu_RX1 : ∀ w ∈ u_ws RX1 TX1 4, w ∈ wT := wT_all (by decide +kernel)
theorem twu_RX2 : ∀ w ∈ u_ws RX2 TX2 3, w ∈ wT := wT_all (by decide +kernel)
theorem twu_RX3 : ∀ w ∈ u_ws RX3 TX3 5, w ∈ wT := wT_all (by decide +kernel)
theorem twu_RX4 : ∀ w ∈ u_ws RX4 TX4 6, w ∈ wT := wT_all (by decide +kernel)
theorem twu_RX5 : ∀ w ∈ u_ws RX5 TX5 12, w ∈ wT := wT_all (by decide +kernel)
theorem twu_RX6 : ∀ w ∈ u_ws RX6 TX6 6, w ∈ wT := wT_all (by decide +kernel)
theorem twu_RX8 : ∀ w ∈ u_ws RX8 TX8 11, w ∈ wT := wT_all (by decide +kernel)
theorem twu_RX9 : ∀ w ∈ u_ws RX9 TX9 36, w ∈ wT := wT_all (by decide +kernel)
