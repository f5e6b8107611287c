/-! The words: all good words of the tables; those of nest mates and of casts; where each stands. -/
def ab_isN : Cond → Bool
  | .fieldLinkNest _ _ _ _ _ _ => true
  | .methodLinkNest _ _ _ _ => true
  | .castable _ _ => true
  | .declares _ => true
  | _ => false
def ab_all : List Cond := lw_tbl.filter goodWord
def ab_nest : List Cond := lw_tbl.filter ab_isN
theorem ab_all_in : ∀ w ∈ ab_all, w ∈ lw_tbl := fun _ h => (List.mem_filter.mp h).1
theorem ab_nest_in : ∀ w ∈ ab_nest, w ∈ lw_tbl := fun _ h => (List.mem_filter.mp h).1
theorem ab_all_good {w : Cond} (h : w ∈ ab_all) : (w.onTables && w.keeps) = true ∨ ∃ ty, w = .arrayClass ty := good_of_word (List.mem_filter.mp h).2
theorem ab_in {w : Cond} {i : Nat} (h : lw_tbl[i]? = some w) (hg : goodWord w = true) : w ∈ ab_all := List.mem_filter.mpr ⟨List.mem_of_getElem? h, hg⟩
theorem se_X0_count : (.selects RX0 yX0_count yX0_count : Cond) ∈ ab_all := List.mem_filter.mpr ⟨List.mem_of_getElem? (i := 0) (by decide +kernel), rfl⟩
theorem se_Jx4a65c_add_72be8 : (.selects RJx4a65c yJx4a65c_add_72be8 yJx4a65c_add_72be8 : Cond) ∈ ab_all := List.mem_filter.mpr ⟨List.mem_of_getElem? (i := 2) (by decide +kernel), rfl⟩
theorem se_Jx4a65c_grow_d5877 : (.selects RJx4a65c yJx4a65c_grow_d5877 yJx4a65c_grow_d5877 : Cond) ∈ ab_all := List.mem_filter.mpr ⟨List.mem_of_getElem? (i := 3) (by decide +kernel), rfl⟩
theorem se_Jx4a65c_grow_92f84 : (.selects RJx4a65c yJx4a65c_grow_92f84 yJx4a65c_grow_92f84 : Cond) ∈ ab_all := List.mem_filter.mpr ⟨List.mem_of_getElem? (i := 4) (by decide +kernel), rfl⟩
theorem se_X9_takeWish : (.selects RX9 yX9_takeWish yX9_takeWish : Cond) ∈ ab_all := List.mem_filter.mpr ⟨List.mem_of_getElem? (i := 5) (by decide +kernel), rfl⟩
theorem se_X9_checkWish : (.selects RX9 yX9_checkWish yX9_checkWish : Cond) ∈ ab_all := List.mem_filter.mpr ⟨List.mem_of_getElem? (i := 6) (by decide +kernel), rfl⟩
theorem se_X2_tryAll : (.selects RX2 yX2_tryAll yX2_tryAll : Cond) ∈ ab_all := List.mem_filter.mpr ⟨List.mem_of_getElem? (i := 7) (by decide +kernel), rfl⟩
theorem se_X2_forget : (.selects RX2 yX2_forget yX2_forget : Cond) ∈ ab_all := List.mem_filter.mpr ⟨List.mem_of_getElem? (i := 8) (by decide +kernel), rfl⟩
theorem se_X3_lengthOf : (.selects RX3 yX3_lengthOf yX3_lengthOf : Cond) ∈ ab_all := List.mem_filter.mpr ⟨List.mem_of_getElem? (i := 9) (by decide +kernel), rfl⟩
theorem se_X7_stopAt : (.selects RX7 yX7_stopAt yX7_stopAt : Cond) ∈ ab_all := List.mem_filter.mpr ⟨List.mem_of_getElem? (i := 10) (by decide +kernel), rfl⟩
theorem se_X0_wayTo : (.selects RX0 yX0_wayTo yX0_wayTo : Cond) ∈ ab_all := List.mem_filter.mpr ⟨List.mem_of_getElem? (i := 11) (by decide +kernel), rfl⟩
theorem se_X0_xOf : (.selects RX0 yX0_xOf yX0_xOf : Cond) ∈ ab_all := List.mem_filter.mpr ⟨List.mem_of_getElem? (i := 12) (by decide +kernel), rfl⟩
theorem se_X0_requestAt : (.selects RX0 yX0_requestAt yX0_requestAt : Cond) ∈ ab_all := List.mem_filter.mpr ⟨List.mem_of_getElem? (i := 13) (by decide +kernel), rfl⟩
theorem se_X0_yOf : (.selects RX0 yX0_yOf yX0_yOf : Cond) ∈ ab_all := List.mem_filter.mpr ⟨List.mem_of_getElem? (i := 14) (by decide +kernel), rfl⟩
theorem se_X2_lay : (.selects RX2 yX2_lay yX2_lay : Cond) ∈ ab_all := List.mem_filter.mpr ⟨List.mem_of_getElem? (i := 15) (by decide +kernel), rfl⟩
theorem se_X7_add : (.selects RX7 yX7_add yX7_add : Cond) ∈ ab_all := List.mem_filter.mpr ⟨List.mem_of_getElem? (i := 16) (by decide +kernel), rfl⟩
theorem se_X7_set : (.selects RX7 yX7_set yX7_set : Cond) ∈ ab_all := List.mem_filter.mpr ⟨List.mem_of_getElem? (i := 17) (by decide +kernel), rfl⟩
theorem se_X3_faultOf : (.selects RX3 yX3_faultOf yX3_faultOf : Cond) ∈ ab_all := List.mem_filter.mpr ⟨List.mem_of_getElem? (i := 18) (by decide +kernel), rfl⟩
theorem se_X3_clock : (.selects RX3 yX3_clock yX3_clock : Cond) ∈ ab_all := List.mem_filter.mpr ⟨List.mem_of_getElem? (i := 19) (by decide +kernel), rfl⟩
theorem se_X3_lacksSeats : (.selects RX3 yX3_lacksSeats yX3_lacksSeats : Cond) ∈ ab_all := List.mem_filter.mpr ⟨List.mem_of_getElem? (i := 20) (by decide +kernel), rfl⟩
theorem se_X3_comesLate : (.selects RX3 yX3_comesLate yX3_comesLate : Cond) ∈ ab_all := List.mem_filter.mpr ⟨List.mem_of_getElem? (i := 21) (by decide +kernel), rfl⟩
theorem se_X3_timeAt : (.selects RX3 yX3_timeAt yX3_timeAt : Cond) ∈ ab_all := List.mem_filter.mpr ⟨List.mem_of_getElem? (i := 22) (by decide +kernel), rfl⟩
theorem se_X3_ridesLong : (.selects RX3 yX3_ridesLong yX3_ridesLong : Cond) ∈ ab_all := List.mem_filter.mpr ⟨List.mem_of_getElem? (i := 23) (by decide +kernel), rfl⟩
theorem se_X7_indexOf : (.selects RX7 yX7_indexOf yX7_indexOf : Cond) ∈ ab_all := List.mem_filter.mpr ⟨List.mem_of_getElem? (i := 24) (by decide +kernel), rfl⟩
theorem se_X2_keep : (.selects RX2 yX2_keep yX2_keep : Cond) ∈ ab_all := List.mem_filter.mpr ⟨List.mem_of_getElem? (i := 25) (by decide +kernel), rfl⟩
theorem se_X0_keepWish : (.selects RX0 yX0_keepWish yX0_keepWish : Cond) ∈ ab_all := List.mem_filter.mpr ⟨List.mem_of_getElem? (i := 26) (by decide +kernel), rfl⟩
theorem se_X2_isFound : (.selects RX2 yX2_isFound yX2_isFound : Cond) ∈ ab_all := List.mem_filter.mpr ⟨List.mem_of_getElem? (i := 27) (by decide +kernel), rfl⟩
theorem se_X2_layBest : (.selects RX2 yX2_layBest yX2_layBest : Cond) ∈ ab_all := List.mem_filter.mpr ⟨List.mem_of_getElem? (i := 28) (by decide +kernel), rfl⟩
theorem se_X7_copyFrom : (.selects RX7 yX7_copyFrom yX7_copyFrom : Cond) ∈ ab_all := List.mem_filter.mpr ⟨List.mem_of_getElem? (i := 29) (by decide +kernel), rfl⟩
theorem se_X9_makeDueStops : (.selects RX9 yX9_makeDueStops yX9_makeDueStops : Cond) ∈ ab_all := List.mem_filter.mpr ⟨List.mem_of_getElem? (i := 30) (by decide +kernel), rfl⟩
theorem se_X7_removeStop : (.selects RX7 yX7_removeStop yX7_removeStop : Cond) ∈ ab_all := List.mem_filter.mpr ⟨List.mem_of_getElem? (i := 31) (by decide +kernel), rfl⟩
theorem se_X9_makeStop : (.selects RX9 yX9_makeStop yX9_makeStop : Cond) ∈ ab_all := List.mem_filter.mpr ⟨List.mem_of_getElem? (i := 32) (by decide +kernel), rfl⟩
theorem se_X4_write : (.selects RX4 yX4_write yX4_write : Cond) ∈ ab_all := List.mem_filter.mpr ⟨List.mem_of_getElem? (i := 33) (by decide +kernel), rfl⟩
theorem se_X2_tryEarly : (.selects RX2 yX2_tryEarly yX2_tryEarly : Cond) ∈ ab_all := List.mem_filter.mpr ⟨List.mem_of_getElem? (i := 34) (by decide +kernel), rfl⟩
theorem se_X8_follow : (.selects RX8 yX8_follow yX8_follow : Cond) ∈ ab_all := List.mem_filter.mpr ⟨List.mem_of_getElem? (i := 35) (by decide +kernel), rfl⟩
theorem se_X8_goTo : (.selects RX8 yX8_goTo yX8_goTo : Cond) ∈ ab_all := List.mem_filter.mpr ⟨List.mem_of_getElem? (i := 36) (by decide +kernel), rfl⟩
theorem se_X8_canMake : (.selects RX8 yX8_canMake yX8_canMake : Cond) ∈ ab_all := List.mem_filter.mpr ⟨List.mem_of_getElem? (i := 37) (by decide +kernel), rfl⟩
theorem se_X9_checkFound : (.selects RX9 yX9_checkFound yX9_checkFound : Cond) ∈ ab_all := List.mem_filter.mpr ⟨List.mem_of_getElem? (i := 38) (by decide +kernel), rfl⟩
theorem se_X9_keptRequest : (.selects RX9 yX9_keptRequest yX9_keptRequest : Cond) ∈ ab_all := List.mem_filter.mpr ⟨List.mem_of_getElem? (i := 39) (by decide +kernel), rfl⟩
theorem se_X9_keptBus : (.selects RX9 yX9_keptBus yX9_keptBus : Cond) ∈ ab_all := List.mem_filter.mpr ⟨List.mem_of_getElem? (i := 40) (by decide +kernel), rfl⟩
theorem se_X9_servedRequest : (.selects RX9 yX9_servedRequest yX9_servedRequest : Cond) ∈ ab_all := List.mem_filter.mpr ⟨List.mem_of_getElem? (i := 41) (by decide +kernel), rfl⟩
theorem se_X9_plannedTime : (.selects RX9 yX9_plannedTime yX9_plannedTime : Cond) ∈ ab_all := List.mem_filter.mpr ⟨List.mem_of_getElem? (i := 42) (by decide +kernel), rfl⟩
theorem se_X9_checkStop : (.selects RX9 yX9_checkStop yX9_checkStop : Cond) ∈ ab_all := List.mem_filter.mpr ⟨List.mem_of_getElem? (i := 43) (by decide +kernel), rfl⟩
theorem se_X5_tryEarly : (.selects RX5 yX5_tryEarly yX5_tryEarly : Cond) ∈ ab_all := List.mem_filter.mpr ⟨List.mem_of_getElem? (i := 44) (by decide +kernel), rfl⟩
theorem se_X5_begin : (.selects RX5 yX5_begin yX5_begin : Cond) ∈ ab_all := List.mem_filter.mpr ⟨List.mem_of_getElem? (i := 45) (by decide +kernel), rfl⟩
theorem se_X7_sortFrom : (.selects RX7 yX7_sortFrom yX7_sortFrom : Cond) ∈ ab_all := List.mem_filter.mpr ⟨List.mem_of_getElem? (i := 46) (by decide +kernel), rfl⟩
theorem se_X7_swap : (.selects RX7 yX7_swap yX7_swap : Cond) ∈ ab_all := List.mem_filter.mpr ⟨List.mem_of_getElem? (i := 47) (by decide +kernel), rfl⟩
theorem se_X5_keep : (.selects RX5 yX5_keep yX5_keep : Cond) ∈ ab_all := List.mem_filter.mpr ⟨List.mem_of_getElem? (i := 48) (by decide +kernel), rfl⟩
theorem se_X7_turnToNext : (.selects RX7 yX7_turnToNext yX7_turnToNext : Cond) ∈ ab_all := List.mem_filter.mpr ⟨List.mem_of_getElem? (i := 49) (by decide +kernel), rfl⟩
theorem se_X5_tryAll : (.selects RX5 yX5_tryAll yX5_tryAll : Cond) ∈ ab_all := List.mem_filter.mpr ⟨List.mem_of_getElem? (i := 50) (by decide +kernel), rfl⟩
theorem se_X3_dropsAheadOfPickup : (.selects RX3 yX3_dropsAheadOfPickup yX3_dropsAheadOfPickup : Cond) ∈ ab_all := List.mem_filter.mpr ⟨List.mem_of_getElem? (i := 51) (by decide +kernel), rfl⟩
theorem se_X9_spendMinute : (.selects RX9 yX9_spendMinute yX9_spendMinute : Cond) ∈ ab_all := List.mem_filter.mpr ⟨List.mem_of_getElem? (i := 52) (by decide +kernel), rfl⟩
theorem se_X1_driveTowards : (.selects RX1 yX1_driveTowards yX1_driveTowards : Cond) ∈ ab_all := List.mem_filter.mpr ⟨List.mem_of_getElem? (i := 53) (by decide +kernel), rfl⟩
theorem se_X4_emptyDistance : (.selects RX4 yX4_emptyDistance yX4_emptyDistance : Cond) ∈ ab_all := List.mem_filter.mpr ⟨List.mem_of_getElem? (i := 54) (by decide +kernel), rfl⟩
theorem se_X4_busAt : (.selects RX4 yX4_busAt yX4_busAt : Cond) ∈ ab_all := List.mem_filter.mpr ⟨List.mem_of_getElem? (i := 55) (by decide +kernel), rfl⟩
theorem se_X4_distanceAt : (.selects RX4 yX4_distanceAt yX4_distanceAt : Cond) ∈ ab_all := List.mem_filter.mpr ⟨List.mem_of_getElem? (i := 56) (by decide +kernel), rfl⟩
theorem se_X4_requestAt : (.selects RX4 yX4_requestAt yX4_requestAt : Cond) ∈ ab_all := List.mem_filter.mpr ⟨List.mem_of_getElem? (i := 57) (by decide +kernel), rfl⟩
theorem se_X4_isFirstOfRequest : (.selects RX4 yX4_isFirstOfRequest yX4_isFirstOfRequest : Cond) ∈ ab_all := List.mem_filter.mpr ⟨List.mem_of_getElem? (i := 58) (by decide +kernel), rfl⟩
theorem se_X9_checkEntry : (.selects RX9 yX9_checkEntry yX9_checkEntry : Cond) ∈ ab_all := List.mem_filter.mpr ⟨List.mem_of_getElem? (i := 59) (by decide +kernel), rfl⟩
theorem se_X4_timeAt : (.selects RX4 yX4_timeAt yX4_timeAt : Cond) ∈ ab_all := List.mem_filter.mpr ⟨List.mem_of_getElem? (i := 60) (by decide +kernel), rfl⟩
theorem se_X10_fails : (.selects RX10 yX10_fails yX10_fails : Cond) ∈ ab_all := List.mem_filter.mpr ⟨List.mem_of_getElem? (i := 61) (by decide +kernel), rfl⟩
theorem se_X10_wrong : (.selects RX10 yX10_wrong yX10_wrong : Cond) ∈ ab_all := List.mem_filter.mpr ⟨List.mem_of_getElem? (i := 62) (by decide +kernel), rfl⟩
theorem se_X10_writes : (.selects RX10 yX10_writes yX10_writes : Cond) ∈ ab_all := List.mem_filter.mpr ⟨List.mem_of_getElem? (i := 63) (by decide +kernel), rfl⟩
theorem se_X10_plans : (.selects RX10 yX10_plans yX10_plans : Cond) ∈ ab_all := List.mem_filter.mpr ⟨List.mem_of_getElem? (i := 64) (by decide +kernel), rfl⟩
theorem se_X10_lengthOf : (.selects RX10 yX10_lengthOf yX10_lengthOf : Cond) ∈ ab_all := List.mem_filter.mpr ⟨List.mem_of_getElem? (i := 65) (by decide +kernel), rfl⟩
theorem se_X10_copies : (.selects RX10 yX10_copies yX10_copies : Cond) ∈ ab_all := List.mem_filter.mpr ⟨List.mem_of_getElem? (i := 66) (by decide +kernel), rfl⟩
theorem se_X10_runs : (.selects RX10 yX10_runs yX10_runs : Cond) ∈ ab_all := List.mem_filter.mpr ⟨List.mem_of_getElem? (i := 67) (by decide +kernel), rfl⟩
theorem se_X10_stopX : (.selects RX10 yX10_stopX yX10_stopX : Cond) ∈ ab_all := List.mem_filter.mpr ⟨List.mem_of_getElem? (i := 68) (by decide +kernel), rfl⟩
theorem se_X10_stopY : (.selects RX10 yX10_stopY yX10_stopY : Cond) ∈ ab_all := List.mem_filter.mpr ⟨List.mem_of_getElem? (i := 69) (by decide +kernel), rfl⟩
theorem se_X10_puts : (.selects RX10 yX10_puts yX10_puts : Cond) ∈ ab_all := List.mem_filter.mpr ⟨List.mem_of_getElem? (i := 70) (by decide +kernel), rfl⟩
theorem se_X10_fault : (.selects RX10 yX10_fault yX10_fault : Cond) ∈ ab_all := List.mem_filter.mpr ⟨List.mem_of_getElem? (i := 71) (by decide +kernel), rfl⟩
theorem se_X10_aboard : (.selects RX10 yX10_aboard yX10_aboard : Cond) ∈ ab_all := List.mem_filter.mpr ⟨List.mem_of_getElem? (i := 72) (by decide +kernel), rfl⟩
theorem se_X10_pickupOf : (.selects RX10 yX10_pickupOf yX10_pickupOf : Cond) ∈ ab_all := List.mem_filter.mpr ⟨List.mem_of_getElem? (i := 73) (by decide +kernel), rfl⟩
theorem se_X10_takes : (.selects RX10 yX10_takes yX10_takes : Cond) ∈ ab_all := List.mem_filter.mpr ⟨List.mem_of_getElem? (i := 74) (by decide +kernel), rfl⟩
theorem se_X10_stopsAt : (.selects RX10 yX10_stopsAt yX10_stopsAt : Cond) ∈ ab_all := List.mem_filter.mpr ⟨List.mem_of_getElem? (i := 75) (by decide +kernel), rfl⟩
theorem se_X10_isRefused : (.selects RX10 yX10_isRefused yX10_isRefused : Cond) ∈ ab_all := List.mem_filter.mpr ⟨List.mem_of_getElem? (i := 76) (by decide +kernel), rfl⟩
theorem se_X10_isRequest : (.selects RX10 yX10_isRequest yX10_isRequest : Cond) ∈ ab_all := List.mem_filter.mpr ⟨List.mem_of_getElem? (i := 77) (by decide +kernel), rfl⟩
theorem se_X10_timeOf : (.selects RX10 yX10_timeOf yX10_timeOf : Cond) ∈ ab_all := List.mem_filter.mpr ⟨List.mem_of_getElem? (i := 78) (by decide +kernel), rfl⟩
theorem se_X10_isBus : (.selects RX10 yX10_isBus yX10_isBus : Cond) ∈ ab_all := List.mem_filter.mpr ⟨List.mem_of_getElem? (i := 79) (by decide +kernel), rfl⟩
theorem se_X10_isNoStop : (.selects RX10 yX10_isNoStop yX10_isNoStop : Cond) ∈ ab_all := List.mem_filter.mpr ⟨List.mem_of_getElem? (i := 80) (by decide +kernel), rfl⟩
theorem se_X10_findsBest : (.selects RX10 yX10_findsBest yX10_findsBest : Cond) ∈ ab_all := List.mem_filter.mpr ⟨List.mem_of_getElem? (i := 81) (by decide +kernel), rfl⟩
theorem se_X10_orders : (.selects RX10 yX10_orders yX10_orders : Cond) ∈ ab_all := List.mem_filter.mpr ⟨List.mem_of_getElem? (i := 82) (by decide +kernel), rfl⟩
theorem se_X10_isOnTour : (.selects RX10 yX10_isOnTour yX10_isOnTour : Cond) ∈ ab_all := List.mem_filter.mpr ⟨List.mem_of_getElem? (i := 83) (by decide +kernel), rfl⟩
theorem se_X10_isTaken : (.selects RX10 yX10_isTaken yX10_isTaken : Cond) ∈ ab_all := List.mem_filter.mpr ⟨List.mem_of_getElem? (i := 84) (by decide +kernel), rfl⟩
theorem se_X10_minute : (.selects RX10 yX10_minute yX10_minute : Cond) ∈ ab_all := List.mem_filter.mpr ⟨List.mem_of_getElem? (i := 85) (by decide +kernel), rfl⟩
theorem se_X10_drives : (.selects RX10 yX10_drives yX10_drives : Cond) ∈ ab_all := List.mem_filter.mpr ⟨List.mem_of_getElem? (i := 86) (by decide +kernel), rfl⟩
theorem se_X10_isEntry : (.selects RX10 yX10_isEntry yX10_isEntry : Cond) ∈ ab_all := List.mem_filter.mpr ⟨List.mem_of_getElem? (i := 87) (by decide +kernel), rfl⟩
theorem in_L : (.initialized RL : Cond) ∈ ab_all := List.mem_filter.mpr ⟨List.mem_of_getElem? (i := 88) (by decide +kernel), rfl⟩
theorem in_X9 : (.initialized RX9 : Cond) ∈ ab_all := List.mem_filter.mpr ⟨List.mem_of_getElem? (i := 89) (by decide +kernel), rfl⟩
theorem in_Jxa1e45 : (.initialized RJxa1e45 : Cond) ∈ ab_all := List.mem_filter.mpr ⟨List.mem_of_getElem? (i := 90) (by decide +kernel), rfl⟩
theorem in_Jxc12de : (.initialized RJxc12de : Cond) ∈ ab_all := List.mem_filter.mpr ⟨List.mem_of_getElem? (i := 91) (by decide +kernel), rfl⟩
theorem in_Jx4a65c : (.initialized RJx4a65c : Cond) ∈ ab_all := List.mem_filter.mpr ⟨List.mem_of_getElem? (i := 92) (by decide +kernel), rfl⟩
theorem in_X0 : (.initialized RX0 : Cond) ∈ ab_all := List.mem_filter.mpr ⟨List.mem_of_getElem? (i := 93) (by decide +kernel), rfl⟩
theorem in_X6 : (.initialized RX6 : Cond) ∈ ab_all := List.mem_filter.mpr ⟨List.mem_of_getElem? (i := 94) (by decide +kernel), rfl⟩
theorem in_X4 : (.initialized RX4 : Cond) ∈ ab_all := List.mem_filter.mpr ⟨List.mem_of_getElem? (i := 95) (by decide +kernel), rfl⟩
theorem in_X3 : (.initialized RX3 : Cond) ∈ ab_all := List.mem_filter.mpr ⟨List.mem_of_getElem? (i := 96) (by decide +kernel), rfl⟩
theorem in_X8 : (.initialized RX8 : Cond) ∈ ab_all := List.mem_filter.mpr ⟨List.mem_of_getElem? (i := 97) (by decide +kernel), rfl⟩
theorem in_X2 : (.initialized RX2 : Cond) ∈ ab_all := List.mem_filter.mpr ⟨List.mem_of_getElem? (i := 98) (by decide +kernel), rfl⟩
theorem in_X7 : (.initialized RX7 : Cond) ∈ ab_all := List.mem_filter.mpr ⟨List.mem_of_getElem? (i := 99) (by decide +kernel), rfl⟩
theorem in_X5 : (.initialized RX5 : Cond) ∈ ab_all := List.mem_filter.mpr ⟨List.mem_of_getElem? (i := 100) (by decide +kernel), rfl⟩
theorem in_X10 : (.initialized RX10 : Cond) ∈ ab_all := List.mem_filter.mpr ⟨List.mem_of_getElem? (i := 101) (by decide +kernel), rfl⟩
theorem in_IAE : (.initialized "java/lang/IllegalArgumentException" : Cond) ∈ ab_all := List.mem_filter.mpr ⟨List.mem_of_getElem? (i := 105) (by decide +kernel), rfl⟩
theorem in_ISE : (.initialized "java/lang/IllegalStateException" : Cond) ∈ ab_all := List.mem_filter.mpr ⟨List.mem_of_getElem? (i := 106) (by decide +kernel), rfl⟩
theorem in_X1 : (.initialized RX1 : Cond) ∈ ab_all := List.mem_filter.mpr ⟨List.mem_of_getElem? (i := 107) (by decide +kernel), rfl⟩
theorem in_J8 : (.initialized RJ8 : Cond) ∈ ab_all := List.mem_filter.mpr ⟨List.mem_of_getElem? (i := 108) (by decide +kernel), rfl⟩
theorem in_J9 : (.initialized RJ9 : Cond) ∈ ab_all := List.mem_filter.mpr ⟨List.mem_of_getElem? (i := 109) (by decide +kernel), rfl⟩
theorem in_J7 : (.initialized RJ7 : Cond) ∈ ab_all := List.mem_filter.mpr ⟨List.mem_of_getElem? (i := 110) (by decide +kernel), rfl⟩
theorem in_J10 : (.initialized RJ10 : Cond) ∈ ab_all := List.mem_filter.mpr ⟨List.mem_of_getElem? (i := 111) (by decide +kernel), rfl⟩
theorem in_UOE : (.initialized "java/lang/UnsupportedOperationException" : Cond) ∈ ab_all := List.mem_filter.mpr ⟨List.mem_of_getElem? (i := 112) (by decide +kernel), rfl⟩
theorem in_J15 : (.initialized RJ15 : Cond) ∈ ab_all := List.mem_filter.mpr ⟨List.mem_of_getElem? (i := 113) (by decide +kernel), rfl⟩
theorem in_J3 : (.initialized RJ3 : Cond) ∈ ab_all := List.mem_filter.mpr ⟨List.mem_of_getElem? (i := 114) (by decide +kernel), rfl⟩
theorem in_NSE : (.initialized "java/util/NoSuchElementException" : Cond) ∈ ab_all := List.mem_filter.mpr ⟨List.mem_of_getElem? (i := 115) (by decide +kernel), rfl⟩
theorem in_IOB : (.initialized "java/lang/IndexOutOfBoundsException" : Cond) ∈ ab_all := List.mem_filter.mpr ⟨List.mem_of_getElem? (i := 116) (by decide +kernel), rfl⟩
theorem cl_L_8 : (.classLink RL 8 RX9 : Cond) ∈ ab_all := List.mem_filter.mpr ⟨List.mem_of_getElem? (i := 117) (by decide +kernel), rfl⟩
theorem it_X9 : (.instantiable RX9 9 : Cond) ∈ ab_all := List.mem_filter.mpr ⟨List.mem_of_getElem? (i := 118) (by decide +kernel), rfl⟩
theorem ml_L_138 : (.methodLink RL 138 yX9_init : Cond) ∈ ab_all := List.mem_filter.mpr ⟨List.mem_of_getElem? (i := 119) (by decide +kernel), rfl⟩
theorem im_X9_init : (.instanceMethod yX9_init : Cond) ∈ ab_all := List.mem_filter.mpr ⟨List.mem_of_getElem? (i := 120) (by decide +kernel), rfl⟩
theorem co_X9_init : (.code yX9_init cX9_init 2 none : Cond) ∈ ab_all := List.mem_filter.mpr ⟨List.mem_of_getElem? (i := 121) (by decide +kernel), rfl⟩
theorem ml_X9_3 : (.methodLink RX9 3 ⟨"java/lang/Object", "<init>", "()V"⟩ : Cond) ∈ ab_all := List.mem_filter.mpr ⟨List.mem_of_getElem? (i := 122) (by decide +kernel), rfl⟩
theorem cl_X9_9 : (.classLink RX9 9 RJx4a65c : Cond) ∈ ab_all := List.mem_filter.mpr ⟨List.mem_of_getElem? (i := 125) (by decide +kernel), rfl⟩
theorem it_Jx4a65c : (.instantiable RJx4a65c 3 : Cond) ∈ ab_all := List.mem_filter.mpr ⟨List.mem_of_getElem? (i := 126) (by decide +kernel), rfl⟩
theorem ml_X9_11 : (.methodLink RX9 11 yJx4a65c_init_da8c8 : Cond) ∈ ab_all := List.mem_filter.mpr ⟨List.mem_of_getElem? (i := 127) (by decide +kernel), rfl⟩
theorem im_Jx4a65c_init_da8c8 : (.instanceMethod yJx4a65c_init_da8c8 : Cond) ∈ ab_all := List.mem_filter.mpr ⟨List.mem_of_getElem? (i := 128) (by decide +kernel), rfl⟩
theorem co_Jx4a65c_init_da8c8 : (.code yJx4a65c_init_da8c8 cJx4a65c_init_da8c8 1 none : Cond) ∈ ab_all := List.mem_filter.mpr ⟨List.mem_of_getElem? (i := 129) (by decide +kernel), rfl⟩
theorem ml_Jx4a65c_1 : (.methodLink RJx4a65c 1 yJxc12de_init_da8c8 : Cond) ∈ ab_all := List.mem_filter.mpr ⟨List.mem_of_getElem? (i := 130) (by decide +kernel), rfl⟩
theorem im_Jxc12de_init_da8c8 : (.instanceMethod yJxc12de_init_da8c8 : Cond) ∈ ab_all := List.mem_filter.mpr ⟨List.mem_of_getElem? (i := 131) (by decide +kernel), rfl⟩
theorem co_Jxc12de_init_da8c8 : (.code yJxc12de_init_da8c8 cJxc12de_init_da8c8 1 none : Cond) ∈ ab_all := List.mem_filter.mpr ⟨List.mem_of_getElem? (i := 132) (by decide +kernel), rfl⟩
theorem ml_Jxc12de_1 : (.methodLink RJxc12de 1 yJxa1e45_init_da8c8 : Cond) ∈ ab_all := List.mem_filter.mpr ⟨List.mem_of_getElem? (i := 133) (by decide +kernel), rfl⟩
theorem im_Jxa1e45_init_da8c8 : (.instanceMethod yJxa1e45_init_da8c8 : Cond) ∈ ab_all := List.mem_filter.mpr ⟨List.mem_of_getElem? (i := 134) (by decide +kernel), rfl⟩
theorem co_Jxa1e45_init_da8c8 : (.code yJxa1e45_init_da8c8 cJxa1e45_init_da8c8 1 none : Cond) ∈ ab_all := List.mem_filter.mpr ⟨List.mem_of_getElem? (i := 135) (by decide +kernel), rfl⟩
theorem ml_Jxa1e45_1 : (.methodLink RJxa1e45 1 ⟨"java/lang/Object", "<init>", "()V"⟩ : Cond) ∈ ab_all := List.mem_filter.mpr ⟨List.mem_of_getElem? (i := 136) (by decide +kernel), rfl⟩
theorem fl_Jx4a65c_39 : (.fieldLink RJx4a65c 39 RJx4a65c "DEFAULTCAPACITY_EMPTY_ELEMENTDATA" "[Ljava/lang/Object;" : Cond) ∈ ab_all := List.mem_filter.mpr ⟨List.mem_of_getElem? (i := 137) (by decide +kernel), rfl⟩
theorem fl_Jx4a65c_9 : (.fieldLink RJx4a65c 9 RJx4a65c "elementData" "[Ljava/lang/Object;" : Cond) ∈ ab_all := List.mem_filter.mpr ⟨List.mem_of_getElem? (i := 139) (by decide +kernel), rfl⟩
theorem fl_Jx4a65c_48 : (.fieldLink RJx4a65c 48 RJx4a65c "size" "I" : Cond) ∈ ab_all := List.mem_filter.mpr ⟨List.mem_of_getElem? (i := 140) (by decide +kernel), rfl⟩
theorem fl_Jxc12de_7 : (.fieldLink RJxc12de 7 RJxc12de "modCount" "I" : Cond) ∈ ab_all := List.mem_filter.mpr ⟨List.mem_of_getElem? (i := 141) (by decide +kernel), rfl⟩
theorem fl_Jx4a65c_63 : (.fieldLink RJx4a65c 63 RJx4a65c "modCount" "I" : Cond) ∈ ab_all := List.mem_filter.mpr ⟨List.mem_of_getElem? (i := 142) (by decide +kernel), rfl⟩
theorem sm_143 : (.sameField RJx4a65c RJxc12de "modCount" "I" : Cond) ∈ ab_all := List.mem_filter.mpr ⟨List.mem_of_getElem? (i := 143) (by decide +kernel), rfl⟩
theorem sm_150 : (.superclass RJx4a65c RJxc12de : Cond) ∈ ab_all := List.mem_filter.mpr ⟨List.mem_of_getElem? (i := 150) (by decide +kernel), rfl⟩
theorem cl_X9_16 : (.classLink RX9 16 RX0 : Cond) ∈ ab_all := List.mem_filter.mpr ⟨List.mem_of_getElem? (i := 151) (by decide +kernel), rfl⟩
theorem it_X0 : (.instantiable RX0 2 : Cond) ∈ ab_all := List.mem_filter.mpr ⟨List.mem_of_getElem? (i := 152) (by decide +kernel), rfl⟩
theorem mn_X9_18 : (.methodLinkNest RX9 18 yX0_init "ShuttleRow" : Cond) ∈ ab_nest := List.mem_filter.mpr ⟨List.mem_of_getElem? (i := 153) (by decide +kernel), rfl⟩
theorem im_X0_init : (.instanceMethod yX0_init : Cond) ∈ ab_all := List.mem_filter.mpr ⟨List.mem_of_getElem? (i := 154) (by decide +kernel), rfl⟩
theorem co_X0_init : (.code yX0_init cX0_init 1 none : Cond) ∈ ab_all := List.mem_filter.mpr ⟨List.mem_of_getElem? (i := 155) (by decide +kernel), rfl⟩
theorem ml_X0_1 : (.methodLink RX0 1 ⟨"java/lang/Object", "<init>", "()V"⟩ : Cond) ∈ ab_all := List.mem_filter.mpr ⟨List.mem_of_getElem? (i := 156) (by decide +kernel), rfl⟩
theorem cl_X0_7 : (.classLink RX0 7 RJx4a65c : Cond) ∈ ab_all := List.mem_filter.mpr ⟨List.mem_of_getElem? (i := 157) (by decide +kernel), rfl⟩
theorem ml_X0_9 : (.methodLink RX0 9 yJx4a65c_init_da8c8 : Cond) ∈ ab_all := List.mem_filter.mpr ⟨List.mem_of_getElem? (i := 158) (by decide +kernel), rfl⟩
theorem cl_X0_16 : (.classLink RX0 16 RX6 : Cond) ∈ ab_all := List.mem_filter.mpr ⟨List.mem_of_getElem? (i := 159) (by decide +kernel), rfl⟩
theorem it_X6 : (.instantiable RX6 13 : Cond) ∈ ab_all := List.mem_filter.mpr ⟨List.mem_of_getElem? (i := 160) (by decide +kernel), rfl⟩
theorem mn_X0_18 : (.methodLinkNest RX0 18 yX6_init "ShuttleRow" : Cond) ∈ ab_nest := List.mem_filter.mpr ⟨List.mem_of_getElem? (i := 161) (by decide +kernel), rfl⟩
theorem im_X6_init : (.instanceMethod yX6_init : Cond) ∈ ab_all := List.mem_filter.mpr ⟨List.mem_of_getElem? (i := 162) (by decide +kernel), rfl⟩
theorem co_X6_init : (.code yX6_init cX6_init 1 none : Cond) ∈ ab_all := List.mem_filter.mpr ⟨List.mem_of_getElem? (i := 163) (by decide +kernel), rfl⟩
theorem ml_X6_3 : (.methodLink RX6 3 ⟨"java/lang/Object", "<init>", "()V"⟩ : Cond) ∈ ab_all := List.mem_filter.mpr ⟨List.mem_of_getElem? (i := 164) (by decide +kernel), rfl⟩
theorem fn_X0_49 : (.fieldLinkNest RX0 49 RX6 "fromX" "I" "ShuttleRow" : Cond) ∈ ab_nest := List.mem_filter.mpr ⟨List.mem_of_getElem? (i := 165) (by decide +kernel), rfl⟩
theorem fn_X9_341 : (.fieldLinkNest RX9 341 RX6 "fromX" "I" "ShuttleRow" : Cond) ∈ ab_nest := List.mem_filter.mpr ⟨List.mem_of_getElem? (i := 166) (by decide +kernel), rfl⟩
theorem fn_X0_56 : (.fieldLinkNest RX0 56 RX6 "fromY" "I" "ShuttleRow" : Cond) ∈ ab_nest := List.mem_filter.mpr ⟨List.mem_of_getElem? (i := 167) (by decide +kernel), rfl⟩
theorem fn_X9_344 : (.fieldLinkNest RX9 344 RX6 "fromY" "I" "ShuttleRow" : Cond) ∈ ab_nest := List.mem_filter.mpr ⟨List.mem_of_getElem? (i := 168) (by decide +kernel), rfl⟩
theorem fn_X0_53 : (.fieldLinkNest RX0 53 RX6 "toX" "I" "ShuttleRow" : Cond) ∈ ab_nest := List.mem_filter.mpr ⟨List.mem_of_getElem? (i := 169) (by decide +kernel), rfl⟩
theorem fn_X9_347 : (.fieldLinkNest RX9 347 RX6 "toX" "I" "ShuttleRow" : Cond) ∈ ab_nest := List.mem_filter.mpr ⟨List.mem_of_getElem? (i := 170) (by decide +kernel), rfl⟩
theorem fn_X0_59 : (.fieldLinkNest RX0 59 RX6 "toY" "I" "ShuttleRow" : Cond) ∈ ab_nest := List.mem_filter.mpr ⟨List.mem_of_getElem? (i := 171) (by decide +kernel), rfl⟩
theorem fn_X9_350 : (.fieldLinkNest RX9 350 RX6 "toY" "I" "ShuttleRow" : Cond) ∈ ab_nest := List.mem_filter.mpr ⟨List.mem_of_getElem? (i := 172) (by decide +kernel), rfl⟩
theorem fn_X8_95 : (.fieldLinkNest RX8 95 RX6 "riders" "I" "ShuttleRow" : Cond) ∈ ab_nest := List.mem_filter.mpr ⟨List.mem_of_getElem? (i := 173) (by decide +kernel), rfl⟩
theorem fn_X3_91 : (.fieldLinkNest RX3 91 RX6 "riders" "I" "ShuttleRow" : Cond) ∈ ab_nest := List.mem_filter.mpr ⟨List.mem_of_getElem? (i := 174) (by decide +kernel), rfl⟩
theorem fn_X4_43 : (.fieldLinkNest RX4 43 RX6 "riders" "I" "ShuttleRow" : Cond) ∈ ab_nest := List.mem_filter.mpr ⟨List.mem_of_getElem? (i := 175) (by decide +kernel), rfl⟩
theorem fn_X9_353 : (.fieldLinkNest RX9 353 RX6 "riders" "I" "ShuttleRow" : Cond) ∈ ab_nest := List.mem_filter.mpr ⟨List.mem_of_getElem? (i := 176) (by decide +kernel), rfl⟩
theorem fn_X9_305 : (.fieldLinkNest RX9 305 RX6 "directRide" "I" "ShuttleRow" : Cond) ∈ ab_nest := List.mem_filter.mpr ⟨List.mem_of_getElem? (i := 177) (by decide +kernel), rfl⟩
theorem fn_X8_101 : (.fieldLinkNest RX8 101 RX6 "latestPickup" "I" "ShuttleRow" : Cond) ∈ ab_nest := List.mem_filter.mpr ⟨List.mem_of_getElem? (i := 178) (by decide +kernel), rfl⟩
theorem fn_X3_106 : (.fieldLinkNest RX3 106 RX6 "latestPickup" "I" "ShuttleRow" : Cond) ∈ ab_nest := List.mem_filter.mpr ⟨List.mem_of_getElem? (i := 179) (by decide +kernel), rfl⟩
theorem fn_X9_205 : (.fieldLinkNest RX9 205 RX6 "latestPickup" "I" "ShuttleRow" : Cond) ∈ ab_nest := List.mem_filter.mpr ⟨List.mem_of_getElem? (i := 180) (by decide +kernel), rfl⟩
theorem fn_X8_113 : (.fieldLinkNest RX8 113 RX6 "longestRide" "I" "ShuttleRow" : Cond) ∈ ab_nest := List.mem_filter.mpr ⟨List.mem_of_getElem? (i := 181) (by decide +kernel), rfl⟩
theorem fn_X3_118 : (.fieldLinkNest RX3 118 RX6 "longestRide" "I" "ShuttleRow" : Cond) ∈ ab_nest := List.mem_filter.mpr ⟨List.mem_of_getElem? (i := 182) (by decide +kernel), rfl⟩
theorem fn_X9_208 : (.fieldLinkNest RX9 208 RX6 "longestRide" "I" "ShuttleRow" : Cond) ∈ ab_nest := List.mem_filter.mpr ⟨List.mem_of_getElem? (i := 183) (by decide +kernel), rfl⟩
theorem fn_X9_132 : (.fieldLinkNest RX9 132 RX6 "status" "C" "ShuttleRow" : Cond) ∈ ab_nest := List.mem_filter.mpr ⟨List.mem_of_getElem? (i := 184) (by decide +kernel), rfl⟩
theorem fn_X9_166 : (.fieldLinkNest RX9 166 RX6 "fault" "I" "ShuttleRow" : Cond) ∈ ab_nest := List.mem_filter.mpr ⟨List.mem_of_getElem? (i := 185) (by decide +kernel), rfl⟩
theorem fl_X6_9 : (.fieldLink RX6 9 RX6 "bus" "I" : Cond) ∈ ab_all := List.mem_filter.mpr ⟨List.mem_of_getElem? (i := 186) (by decide +kernel), rfl⟩
theorem fn_X9_141 : (.fieldLinkNest RX9 141 RX6 "bus" "I" "ShuttleRow" : Cond) ∈ ab_nest := List.mem_filter.mpr ⟨List.mem_of_getElem? (i := 187) (by decide +kernel), rfl⟩
theorem fn_X8_110 : (.fieldLinkNest RX8 110 RX6 "pickedAt" "I" "ShuttleRow" : Cond) ∈ ab_nest := List.mem_filter.mpr ⟨List.mem_of_getElem? (i := 188) (by decide +kernel), rfl⟩
theorem fn_X3_115 : (.fieldLinkNest RX3 115 RX6 "pickedAt" "I" "ShuttleRow" : Cond) ∈ ab_nest := List.mem_filter.mpr ⟨List.mem_of_getElem? (i := 189) (by decide +kernel), rfl⟩
theorem fn_X9_218 : (.fieldLinkNest RX9 218 RX6 "pickedAt" "I" "ShuttleRow" : Cond) ∈ ab_nest := List.mem_filter.mpr ⟨List.mem_of_getElem? (i := 190) (by decide +kernel), rfl⟩
theorem fn_X9_221 : (.fieldLinkNest RX9 221 RX6 "droppedAt" "I" "ShuttleRow" : Cond) ∈ ab_nest := List.mem_filter.mpr ⟨List.mem_of_getElem? (i := 191) (by decide +kernel), rfl⟩
theorem sm_218 : (.superclass RX6 "java/lang/Object" : Cond) ∈ ab_all := List.mem_filter.mpr ⟨List.mem_of_getElem? (i := 218) (by decide +kernel), rfl⟩
theorem fl_X0_10 : (.fieldLink RX0 10 RX0 "requests" "Ljava/util/ArrayList;" : Cond) ∈ ab_all := List.mem_filter.mpr ⟨List.mem_of_getElem? (i := 219) (by decide +kernel), rfl⟩
theorem fl_X0_19 : (.fieldLink RX0 19 RX0 "wish" "LShuttleRow$Request;" : Cond) ∈ ab_all := List.mem_filter.mpr ⟨List.mem_of_getElem? (i := 220) (by decide +kernel), rfl⟩
theorem fn_X9_337 : (.fieldLinkNest RX9 337 RX0 "wish" "LShuttleRow$Request;" "ShuttleRow" : Cond) ∈ ab_nest := List.mem_filter.mpr ⟨List.mem_of_getElem? (i := 221) (by decide +kernel), rfl⟩
theorem sm_226 : (.superclass RX0 "java/lang/Object" : Cond) ∈ ab_all := List.mem_filter.mpr ⟨List.mem_of_getElem? (i := 226) (by decide +kernel), rfl⟩
theorem cl_X9_23 : (.classLink RX9 23 RX4 : Cond) ∈ ab_all := List.mem_filter.mpr ⟨List.mem_of_getElem? (i := 227) (by decide +kernel), rfl⟩
theorem it_X4 : (.instantiable RX4 5 : Cond) ∈ ab_all := List.mem_filter.mpr ⟨List.mem_of_getElem? (i := 228) (by decide +kernel), rfl⟩
theorem mn_X9_25 : (.methodLinkNest RX9 25 yX4_init "ShuttleRow" : Cond) ∈ ab_nest := List.mem_filter.mpr ⟨List.mem_of_getElem? (i := 229) (by decide +kernel), rfl⟩
theorem im_X4_init : (.instanceMethod yX4_init : Cond) ∈ ab_all := List.mem_filter.mpr ⟨List.mem_of_getElem? (i := 230) (by decide +kernel), rfl⟩
theorem co_X4_init : (.code yX4_init cX4_init 1 none : Cond) ∈ ab_all := List.mem_filter.mpr ⟨List.mem_of_getElem? (i := 231) (by decide +kernel), rfl⟩
theorem ml_X4_3 : (.methodLink RX4 3 ⟨"java/lang/Object", "<init>", "()V"⟩ : Cond) ∈ ab_all := List.mem_filter.mpr ⟨List.mem_of_getElem? (i := 232) (by decide +kernel), rfl⟩
theorem fl_X4_9 : (.fieldLink RX4 9 RX4 "buses" "[I" : Cond) ∈ ab_all := List.mem_filter.mpr ⟨List.mem_of_getElem? (i := 233) (by decide +kernel), rfl⟩
theorem fl_X4_15 : (.fieldLink RX4 15 RX4 "requests" "[I" : Cond) ∈ ab_all := List.mem_filter.mpr ⟨List.mem_of_getElem? (i := 234) (by decide +kernel), rfl⟩
theorem fl_X4_18 : (.fieldLink RX4 18 RX4 "times" "[I" : Cond) ∈ ab_all := List.mem_filter.mpr ⟨List.mem_of_getElem? (i := 235) (by decide +kernel), rfl⟩
theorem fl_X4_21 : (.fieldLink RX4 21 RX4 "distances" "[I" : Cond) ∈ ab_all := List.mem_filter.mpr ⟨List.mem_of_getElem? (i := 236) (by decide +kernel), rfl⟩
theorem fl_X4_24 : (.fieldLink RX4 24 RX4 "count" "I" : Cond) ∈ ab_all := List.mem_filter.mpr ⟨List.mem_of_getElem? (i := 237) (by decide +kernel), rfl⟩
theorem fn_X9_287 : (.fieldLinkNest RX9 287 RX4 "count" "I" "ShuttleRow" : Cond) ∈ ab_nest := List.mem_filter.mpr ⟨List.mem_of_getElem? (i := 238) (by decide +kernel), rfl⟩
theorem sm_249 : (.superclass RX4 "java/lang/Object" : Cond) ∈ ab_all := List.mem_filter.mpr ⟨List.mem_of_getElem? (i := 249) (by decide +kernel), rfl⟩
theorem ac_int : (.arrayClass FieldType.int : Cond) ∈ ab_all := List.mem_filter.mpr ⟨List.mem_of_getElem? (i := 250) (by decide +kernel), rfl⟩
theorem cl_X9_30 : (.classLink RX9 30 RX3 : Cond) ∈ ab_all := List.mem_filter.mpr ⟨List.mem_of_getElem? (i := 251) (by decide +kernel), rfl⟩
theorem it_X3 : (.instantiable RX3 2 : Cond) ∈ ab_all := List.mem_filter.mpr ⟨List.mem_of_getElem? (i := 252) (by decide +kernel), rfl⟩
theorem mn_X9_32 : (.methodLinkNest RX9 32 yX3_init "ShuttleRow" : Cond) ∈ ab_nest := List.mem_filter.mpr ⟨List.mem_of_getElem? (i := 253) (by decide +kernel), rfl⟩
theorem im_X3_init : (.instanceMethod yX3_init : Cond) ∈ ab_all := List.mem_filter.mpr ⟨List.mem_of_getElem? (i := 254) (by decide +kernel), rfl⟩
theorem co_X3_init : (.code yX3_init cX3_init 2 none : Cond) ∈ ab_all := List.mem_filter.mpr ⟨List.mem_of_getElem? (i := 255) (by decide +kernel), rfl⟩
theorem ml_X3_3 : (.methodLink RX3 3 ⟨"java/lang/Object", "<init>", "()V"⟩ : Cond) ∈ ab_all := List.mem_filter.mpr ⟨List.mem_of_getElem? (i := 256) (by decide +kernel), rfl⟩
theorem fl_X3_15 : (.fieldLink RX3 15 RX3 "book" "LShuttleRow$Book;" : Cond) ∈ ab_all := List.mem_filter.mpr ⟨List.mem_of_getElem? (i := 257) (by decide +kernel), rfl⟩
theorem fl_X3_9 : (.fieldLink RX3 9 RX3 "times" "[I" : Cond) ∈ ab_all := List.mem_filter.mpr ⟨List.mem_of_getElem? (i := 258) (by decide +kernel), rfl⟩
theorem sm_263 : (.superclass RX3 "java/lang/Object" : Cond) ∈ ab_all := List.mem_filter.mpr ⟨List.mem_of_getElem? (i := 263) (by decide +kernel), rfl⟩
theorem cl_X9_39 : (.classLink RX9 39 RX8 : Cond) ∈ ab_all := List.mem_filter.mpr ⟨List.mem_of_getElem? (i := 264) (by decide +kernel), rfl⟩
theorem it_X8 : (.instantiable RX8 7 : Cond) ∈ ab_all := List.mem_filter.mpr ⟨List.mem_of_getElem? (i := 265) (by decide +kernel), rfl⟩
theorem mn_X9_41 : (.methodLinkNest RX9 41 yX8_init "ShuttleRow" : Cond) ∈ ab_nest := List.mem_filter.mpr ⟨List.mem_of_getElem? (i := 266) (by decide +kernel), rfl⟩
theorem im_X8_init : (.instanceMethod yX8_init : Cond) ∈ ab_all := List.mem_filter.mpr ⟨List.mem_of_getElem? (i := 267) (by decide +kernel), rfl⟩
theorem co_X8_init : (.code yX8_init cX8_init 2 none : Cond) ∈ ab_all := List.mem_filter.mpr ⟨List.mem_of_getElem? (i := 268) (by decide +kernel), rfl⟩
theorem ml_X8_3 : (.methodLink RX8 3 ⟨"java/lang/Object", "<init>", "()V"⟩ : Cond) ∈ ab_all := List.mem_filter.mpr ⟨List.mem_of_getElem? (i := 269) (by decide +kernel), rfl⟩
theorem fl_X8_15 : (.fieldLink RX8 15 RX8 "book" "LShuttleRow$Book;" : Cond) ∈ ab_all := List.mem_filter.mpr ⟨List.mem_of_getElem? (i := 270) (by decide +kernel), rfl⟩
theorem fl_X8_9 : (.fieldLink RX8 9 RX8 "times" "[I" : Cond) ∈ ab_all := List.mem_filter.mpr ⟨List.mem_of_getElem? (i := 271) (by decide +kernel), rfl⟩
theorem fl_X8_25 : (.fieldLink RX8 25 RX8 "x" "I" : Cond) ∈ ab_all := List.mem_filter.mpr ⟨List.mem_of_getElem? (i := 272) (by decide +kernel), rfl⟩
theorem fl_X8_29 : (.fieldLink RX8 29 RX8 "y" "I" : Cond) ∈ ab_all := List.mem_filter.mpr ⟨List.mem_of_getElem? (i := 273) (by decide +kernel), rfl⟩
theorem fl_X8_30 : (.fieldLink RX8 30 RX8 "way" "I" : Cond) ∈ ab_all := List.mem_filter.mpr ⟨List.mem_of_getElem? (i := 274) (by decide +kernel), rfl⟩
theorem fl_X8_36 : (.fieldLink RX8 36 RX8 "riders" "I" : Cond) ∈ ab_all := List.mem_filter.mpr ⟨List.mem_of_getElem? (i := 275) (by decide +kernel), rfl⟩
theorem fl_X8_49 : (.fieldLink RX8 49 RX8 "length" "I" : Cond) ∈ ab_all := List.mem_filter.mpr ⟨List.mem_of_getElem? (i := 276) (by decide +kernel), rfl⟩
theorem fn_X5_65 : (.fieldLinkNest RX5 65 RX8 "length" "I" "ShuttleRow" : Cond) ∈ ab_nest := List.mem_filter.mpr ⟨List.mem_of_getElem? (i := 277) (by decide +kernel), rfl⟩
theorem fn_X2_92 : (.fieldLinkNest RX2 92 RX8 "length" "I" "ShuttleRow" : Cond) ∈ ab_nest := List.mem_filter.mpr ⟨List.mem_of_getElem? (i := 278) (by decide +kernel), rfl⟩
theorem sm_293 : (.superclass RX8 "java/lang/Object" : Cond) ∈ ab_all := List.mem_filter.mpr ⟨List.mem_of_getElem? (i := 293) (by decide +kernel), rfl⟩
theorem cl_X9_42 : (.classLink RX9 42 RX2 : Cond) ∈ ab_all := List.mem_filter.mpr ⟨List.mem_of_getElem? (i := 294) (by decide +kernel), rfl⟩
theorem it_X2 : (.instantiable RX2 8 : Cond) ∈ ab_all := List.mem_filter.mpr ⟨List.mem_of_getElem? (i := 295) (by decide +kernel), rfl⟩
theorem mn_X9_44 : (.methodLinkNest RX9 44 yX2_init "ShuttleRow" : Cond) ∈ ab_nest := List.mem_filter.mpr ⟨List.mem_of_getElem? (i := 296) (by decide +kernel), rfl⟩
theorem im_X2_init : (.instanceMethod yX2_init : Cond) ∈ ab_all := List.mem_filter.mpr ⟨List.mem_of_getElem? (i := 297) (by decide +kernel), rfl⟩
theorem co_X2_init : (.code yX2_init cX2_init 3 none : Cond) ∈ ab_all := List.mem_filter.mpr ⟨List.mem_of_getElem? (i := 298) (by decide +kernel), rfl⟩
theorem ml_X2_3 : (.methodLink RX2 3 ⟨"java/lang/Object", "<init>", "()V"⟩ : Cond) ∈ ab_all := List.mem_filter.mpr ⟨List.mem_of_getElem? (i := 299) (by decide +kernel), rfl⟩
theorem cl_X2_9 : (.classLink RX2 9 RX7 : Cond) ∈ ab_all := List.mem_filter.mpr ⟨List.mem_of_getElem? (i := 300) (by decide +kernel), rfl⟩
theorem it_X7 : (.instantiable RX7 2 : Cond) ∈ ab_all := List.mem_filter.mpr ⟨List.mem_of_getElem? (i := 301) (by decide +kernel), rfl⟩
theorem mn_X2_11 : (.methodLinkNest RX2 11 yX7_init "ShuttleRow" : Cond) ∈ ab_nest := List.mem_filter.mpr ⟨List.mem_of_getElem? (i := 302) (by decide +kernel), rfl⟩
theorem im_X7_init : (.instanceMethod yX7_init : Cond) ∈ ab_all := List.mem_filter.mpr ⟨List.mem_of_getElem? (i := 303) (by decide +kernel), rfl⟩
theorem co_X7_init : (.code yX7_init cX7_init 1 none : Cond) ∈ ab_all := List.mem_filter.mpr ⟨List.mem_of_getElem? (i := 304) (by decide +kernel), rfl⟩
theorem ml_X7_3 : (.methodLink RX7 3 ⟨"java/lang/Object", "<init>", "()V"⟩ : Cond) ∈ ab_all := List.mem_filter.mpr ⟨List.mem_of_getElem? (i := 305) (by decide +kernel), rfl⟩
theorem fl_X7_9 : (.fieldLink RX7 9 RX7 "stops" "[I" : Cond) ∈ ab_all := List.mem_filter.mpr ⟨List.mem_of_getElem? (i := 306) (by decide +kernel), rfl⟩
theorem fl_X7_15 : (.fieldLink RX7 15 RX7 "count" "I" : Cond) ∈ ab_all := List.mem_filter.mpr ⟨List.mem_of_getElem? (i := 307) (by decide +kernel), rfl⟩
theorem fn_X3_28 : (.fieldLinkNest RX3 28 RX7 "count" "I" "ShuttleRow" : Cond) ∈ ab_nest := List.mem_filter.mpr ⟨List.mem_of_getElem? (i := 308) (by decide +kernel), rfl⟩
theorem fn_X8_52 : (.fieldLinkNest RX8 52 RX7 "count" "I" "ShuttleRow" : Cond) ∈ ab_nest := List.mem_filter.mpr ⟨List.mem_of_getElem? (i := 309) (by decide +kernel), rfl⟩
theorem fn_X2_54 : (.fieldLinkNest RX2 54 RX7 "count" "I" "ShuttleRow" : Cond) ∈ ab_nest := List.mem_filter.mpr ⟨List.mem_of_getElem? (i := 310) (by decide +kernel), rfl⟩
theorem fn_X9_224 : (.fieldLinkNest RX9 224 RX7 "count" "I" "ShuttleRow" : Cond) ∈ ab_nest := List.mem_filter.mpr ⟨List.mem_of_getElem? (i := 311) (by decide +kernel), rfl⟩
theorem sm_316 : (.superclass RX7 "java/lang/Object" : Cond) ∈ ab_all := List.mem_filter.mpr ⟨List.mem_of_getElem? (i := 316) (by decide +kernel), rfl⟩
theorem fl_X2_18 : (.fieldLink RX2 18 RX2 "inspection" "LShuttleRow$Inspection;" : Cond) ∈ ab_all := List.mem_filter.mpr ⟨List.mem_of_getElem? (i := 317) (by decide +kernel), rfl⟩
theorem fl_X2_22 : (.fieldLink RX2 22 RX2 "walk" "LShuttleRow$Walk;" : Cond) ∈ ab_all := List.mem_filter.mpr ⟨List.mem_of_getElem? (i := 318) (by decide +kernel), rfl⟩
theorem fl_X2_12 : (.fieldLink RX2 12 RX2 "plan" "LShuttleRow$Tour;" : Cond) ∈ ab_all := List.mem_filter.mpr ⟨List.mem_of_getElem? (i := 319) (by decide +kernel), rfl⟩
theorem fn_X9_150 : (.fieldLinkNest RX9 150 RX2 "plan" "LShuttleRow$Tour;" "ShuttleRow" : Cond) ∈ ab_nest := List.mem_filter.mpr ⟨List.mem_of_getElem? (i := 320) (by decide +kernel), rfl⟩
theorem fl_X2_26 : (.fieldLink RX2 26 RX2 "bus" "I" : Cond) ∈ ab_all := List.mem_filter.mpr ⟨List.mem_of_getElem? (i := 321) (by decide +kernel), rfl⟩
theorem fn_X9_125 : (.fieldLinkNest RX9 125 RX2 "bus" "I" "ShuttleRow" : Cond) ∈ ab_nest := List.mem_filter.mpr ⟨List.mem_of_getElem? (i := 322) (by decide +kernel), rfl⟩
theorem fl_X2_95 : (.fieldLink RX2 95 RX2 "pickupIndex" "I" : Cond) ∈ ab_all := List.mem_filter.mpr ⟨List.mem_of_getElem? (i := 323) (by decide +kernel), rfl⟩
theorem fl_X2_98 : (.fieldLink RX2 98 RX2 "dropIndex" "I" : Cond) ∈ ab_all := List.mem_filter.mpr ⟨List.mem_of_getElem? (i := 324) (by decide +kernel), rfl⟩
theorem fl_X2_74 : (.fieldLink RX2 74 RX2 "added" "I" : Cond) ∈ ab_all := List.mem_filter.mpr ⟨List.mem_of_getElem? (i := 325) (by decide +kernel), rfl⟩
theorem fn_X9_173 : (.fieldLinkNest RX9 173 RX2 "added" "I" "ShuttleRow" : Cond) ∈ ab_nest := List.mem_filter.mpr ⟨List.mem_of_getElem? (i := 326) (by decide +kernel), rfl⟩
theorem fl_X2_65 : (.fieldLink RX2 65 RX2 "fault" "I" : Cond) ∈ ab_all := List.mem_filter.mpr ⟨List.mem_of_getElem? (i := 327) (by decide +kernel), rfl⟩
theorem fn_X9_163 : (.fieldLinkNest RX9 163 RX2 "fault" "I" "ShuttleRow" : Cond) ∈ ab_nest := List.mem_filter.mpr ⟨List.mem_of_getElem? (i := 328) (by decide +kernel), rfl⟩
theorem sm_345 : (.superclass RX2 "java/lang/Object" : Cond) ∈ ab_all := List.mem_filter.mpr ⟨List.mem_of_getElem? (i := 345) (by decide +kernel), rfl⟩
theorem cl_X9_51 : (.classLink RX9 51 RX5 : Cond) ∈ ab_all := List.mem_filter.mpr ⟨List.mem_of_getElem? (i := 346) (by decide +kernel), rfl⟩
theorem it_X5 : (.instantiable RX5 5 : Cond) ∈ ab_all := List.mem_filter.mpr ⟨List.mem_of_getElem? (i := 347) (by decide +kernel), rfl⟩
theorem mn_X9_53 : (.methodLinkNest RX9 53 yX5_init "ShuttleRow" : Cond) ∈ ab_nest := List.mem_filter.mpr ⟨List.mem_of_getElem? (i := 348) (by decide +kernel), rfl⟩
theorem im_X5_init : (.instanceMethod yX5_init : Cond) ∈ ab_all := List.mem_filter.mpr ⟨List.mem_of_getElem? (i := 349) (by decide +kernel), rfl⟩
theorem co_X5_init : (.code yX5_init cX5_init 3 none : Cond) ∈ ab_all := List.mem_filter.mpr ⟨List.mem_of_getElem? (i := 350) (by decide +kernel), rfl⟩
theorem ml_X5_3 : (.methodLink RX5 3 ⟨"java/lang/Object", "<init>", "()V"⟩ : Cond) ∈ ab_all := List.mem_filter.mpr ⟨List.mem_of_getElem? (i := 351) (by decide +kernel), rfl⟩
theorem cl_X5_9 : (.classLink RX5 9 RX7 : Cond) ∈ ab_all := List.mem_filter.mpr ⟨List.mem_of_getElem? (i := 352) (by decide +kernel), rfl⟩
theorem mn_X5_11 : (.methodLinkNest RX5 11 yX7_init "ShuttleRow" : Cond) ∈ ab_nest := List.mem_filter.mpr ⟨List.mem_of_getElem? (i := 353) (by decide +kernel), rfl⟩
theorem fl_X5_21 : (.fieldLink RX5 21 RX5 "inspection" "LShuttleRow$Inspection;" : Cond) ∈ ab_all := List.mem_filter.mpr ⟨List.mem_of_getElem? (i := 354) (by decide +kernel), rfl⟩
theorem fl_X5_25 : (.fieldLink RX5 25 RX5 "walk" "LShuttleRow$Walk;" : Cond) ∈ ab_all := List.mem_filter.mpr ⟨List.mem_of_getElem? (i := 355) (by decide +kernel), rfl⟩
theorem fl_X5_12 : (.fieldLink RX5 12 RX5 "order" "LShuttleRow$Tour;" : Cond) ∈ ab_all := List.mem_filter.mpr ⟨List.mem_of_getElem? (i := 356) (by decide +kernel), rfl⟩
theorem fl_X5_18 : (.fieldLink RX5 18 RX5 "best" "LShuttleRow$Tour;" : Cond) ∈ ab_all := List.mem_filter.mpr ⟨List.mem_of_getElem? (i := 357) (by decide +kernel), rfl⟩
theorem fn_X9_246 : (.fieldLinkNest RX9 246 RX5 "best" "LShuttleRow$Tour;" "ShuttleRow" : Cond) ∈ ab_nest := List.mem_filter.mpr ⟨List.mem_of_getElem? (i := 358) (by decide +kernel), rfl⟩
theorem fl_X5_39 : (.fieldLink RX5 39 RX5 "bound" "I" : Cond) ∈ ab_all := List.mem_filter.mpr ⟨List.mem_of_getElem? (i := 359) (by decide +kernel), rfl⟩
theorem sm_370 : (.superclass RX5 "java/lang/Object" : Cond) ∈ ab_all := List.mem_filter.mpr ⟨List.mem_of_getElem? (i := 370) (by decide +kernel), rfl⟩
theorem fl_X9_12 : (.fieldLink RX9 12 RX9 "buses" "Ljava/util/ArrayList;" : Cond) ∈ ab_all := List.mem_filter.mpr ⟨List.mem_of_getElem? (i := 371) (by decide +kernel), rfl⟩
theorem fl_X9_19 : (.fieldLink RX9 19 RX9 "book" "LShuttleRow$Book;" : Cond) ∈ ab_all := List.mem_filter.mpr ⟨List.mem_of_getElem? (i := 372) (by decide +kernel), rfl⟩
theorem fl_X9_26 : (.fieldLink RX9 26 RX9 "journal" "LShuttleRow$Journal;" : Cond) ∈ ab_all := List.mem_filter.mpr ⟨List.mem_of_getElem? (i := 373) (by decide +kernel), rfl⟩
theorem fl_X9_35 : (.fieldLink RX9 35 RX9 "inspection" "LShuttleRow$Inspection;" : Cond) ∈ ab_all := List.mem_filter.mpr ⟨List.mem_of_getElem? (i := 374) (by decide +kernel), rfl⟩
theorem fl_X9_47 : (.fieldLink RX9 47 RX9 "choice" "LShuttleRow$Choice;" : Cond) ∈ ab_all := List.mem_filter.mpr ⟨List.mem_of_getElem? (i := 375) (by decide +kernel), rfl⟩
theorem fl_X9_54 : (.fieldLink RX9 54 RX9 "orders" "LShuttleRow$Orders;" : Cond) ∈ ab_all := List.mem_filter.mpr ⟨List.mem_of_getElem? (i := 376) (by decide +kernel), rfl⟩
theorem fl_X9_58 : (.fieldLink RX9 58 RX9 "now" "I" : Cond) ∈ ab_all := List.mem_filter.mpr ⟨List.mem_of_getElem? (i := 377) (by decide +kernel), rfl⟩
theorem fl_X9_62 : (.fieldLink RX9 62 RX9 "detour" "I" : Cond) ∈ ab_all := List.mem_filter.mpr ⟨List.mem_of_getElem? (i := 378) (by decide +kernel), rfl⟩
theorem fl_X9_65 : (.fieldLink RX9 65 RX9 "wait" "I" : Cond) ∈ ab_all := List.mem_filter.mpr ⟨List.mem_of_getElem? (i := 379) (by decide +kernel), rfl⟩
theorem sm_398 : (.superclass RX9 "java/lang/Object" : Cond) ∈ ab_all := List.mem_filter.mpr ⟨List.mem_of_getElem? (i := 398) (by decide +kernel), rfl⟩
theorem ml_L_195 : (.methodLink RL 195 yX9_requests : Cond) ∈ ab_all := List.mem_filter.mpr ⟨List.mem_of_getElem? (i := 399) (by decide +kernel), rfl⟩
theorem im_X9_requests : (.instanceMethod yX9_requests : Cond) ∈ ab_all := List.mem_filter.mpr ⟨List.mem_of_getElem? (i := 400) (by decide +kernel), rfl⟩
theorem se_X9_requests : (.selects RX9 yX9_requests yX9_requests : Cond) ∈ ab_all := List.mem_filter.mpr ⟨List.mem_of_getElem? (i := 401) (by decide +kernel), rfl⟩
theorem co_X9_requests : (.code yX9_requests cX9_requests 1 (some .int) : Cond) ∈ ab_all := List.mem_filter.mpr ⟨List.mem_of_getElem? (i := 402) (by decide +kernel), rfl⟩
theorem mn_X9_108 : (.methodLinkNest RX9 108 yX0_count "ShuttleRow" : Cond) ∈ ab_nest := List.mem_filter.mpr ⟨List.mem_of_getElem? (i := 403) (by decide +kernel), rfl⟩
theorem im_X0_count : (.instanceMethod yX0_count : Cond) ∈ ab_all := List.mem_filter.mpr ⟨List.mem_of_getElem? (i := 405) (by decide +kernel), rfl⟩
theorem co_X0_count : (.code yX0_count cX0_count 1 (some .int) : Cond) ∈ ab_all := List.mem_filter.mpr ⟨List.mem_of_getElem? (i := 406) (by decide +kernel), rfl⟩
theorem ml_X0_23 : (.methodLink RX0 23 yJx4a65c_size_8abf5 : Cond) ∈ ab_all := List.mem_filter.mpr ⟨List.mem_of_getElem? (i := 407) (by decide +kernel), rfl⟩
theorem im_Jx4a65c_size_8abf5 : (.instanceMethod yJx4a65c_size_8abf5 : Cond) ∈ ab_all := List.mem_filter.mpr ⟨List.mem_of_getElem? (i := 408) (by decide +kernel), rfl⟩
theorem se_Jx4a65c_size_8abf5 : (.selects RJx4a65c yJx4a65c_size_8abf5 yJx4a65c_size_8abf5 : Cond) ∈ ab_all := List.mem_filter.mpr ⟨List.mem_of_getElem? (i := 409) (by decide +kernel), rfl⟩
theorem co_Jx4a65c_size_8abf5 : (.code yJx4a65c_size_8abf5 cJx4a65c_size_8abf5 1 (some .int) : Cond) ∈ ab_all := List.mem_filter.mpr ⟨List.mem_of_getElem? (i := 410) (by decide +kernel), rfl⟩
theorem ml_L_227 : (.methodLink RL 227 yX9_now : Cond) ∈ ab_all := List.mem_filter.mpr ⟨List.mem_of_getElem? (i := 411) (by decide +kernel), rfl⟩
theorem im_X9_now : (.instanceMethod yX9_now : Cond) ∈ ab_all := List.mem_filter.mpr ⟨List.mem_of_getElem? (i := 412) (by decide +kernel), rfl⟩
theorem se_X9_now : (.selects RX9 yX9_now yX9_now : Cond) ∈ ab_all := List.mem_filter.mpr ⟨List.mem_of_getElem? (i := 413) (by decide +kernel), rfl⟩
theorem co_X9_now : (.code yX9_now cX9_now 1 (some .int) : Cond) ∈ ab_all := List.mem_filter.mpr ⟨List.mem_of_getElem? (i := 414) (by decide +kernel), rfl⟩
theorem ml_L_256 : (.methodLink RL 256 yX9_entries : Cond) ∈ ab_all := List.mem_filter.mpr ⟨List.mem_of_getElem? (i := 415) (by decide +kernel), rfl⟩
theorem im_X9_entries : (.instanceMethod yX9_entries : Cond) ∈ ab_all := List.mem_filter.mpr ⟨List.mem_of_getElem? (i := 416) (by decide +kernel), rfl⟩
theorem se_X9_entries : (.selects RX9 yX9_entries yX9_entries : Cond) ∈ ab_all := List.mem_filter.mpr ⟨List.mem_of_getElem? (i := 417) (by decide +kernel), rfl⟩
theorem co_X9_entries : (.code yX9_entries cX9_entries 1 (some .int) : Cond) ∈ ab_all := List.mem_filter.mpr ⟨List.mem_of_getElem? (i := 418) (by decide +kernel), rfl⟩
theorem ml_L_142 : (.methodLink RL 142 yL_setDetour : Cond) ∈ ab_all := List.mem_filter.mpr ⟨List.mem_of_getElem? (i := 419) (by decide +kernel), rfl⟩
theorem sc_L_setDetour : (.static yL_setDetour : Cond) ∈ ab_all := List.mem_filter.mpr ⟨List.mem_of_getElem? (i := 420) (by decide +kernel), rfl⟩
theorem co_L_setDetour : (.codeWith yL_setDetour cL_setDetour 4 (some .int) [(0, 9, 12, 13)] : Cond) ∈ ab_all := List.mem_filter.mpr ⟨List.mem_of_getElem? (i := 421) (by decide +kernel), rfl⟩
theorem cl_L_13 : (.classLink RL 13 "java/lang/IllegalArgumentException" : Cond) ∈ ab_all := List.mem_filter.mpr ⟨List.mem_of_getElem? (i := 422) (by decide +kernel), rfl⟩
theorem ml_L_7 : (.methodLink RL 7 yX9_setDetour : Cond) ∈ ab_all := List.mem_filter.mpr ⟨List.mem_of_getElem? (i := 423) (by decide +kernel), rfl⟩
theorem im_X9_setDetour : (.instanceMethod yX9_setDetour : Cond) ∈ ab_all := List.mem_filter.mpr ⟨List.mem_of_getElem? (i := 424) (by decide +kernel), rfl⟩
theorem se_X9_setDetour : (.selects RX9 yX9_setDetour yX9_setDetour : Cond) ∈ ab_all := List.mem_filter.mpr ⟨List.mem_of_getElem? (i := 425) (by decide +kernel), rfl⟩
theorem co_X9_setDetour : (.code yX9_setDetour cX9_setDetour 3 (some .int) : Cond) ∈ ab_all := List.mem_filter.mpr ⟨List.mem_of_getElem? (i := 426) (by decide +kernel), rfl⟩
theorem ml_X9_68 : (.methodLink RX9 68 yX9_isBetween : Cond) ∈ ab_all := List.mem_filter.mpr ⟨List.mem_of_getElem? (i := 427) (by decide +kernel), rfl⟩
theorem sc_X9_isBetween : (.static yX9_isBetween : Cond) ∈ ab_all := List.mem_filter.mpr ⟨List.mem_of_getElem? (i := 428) (by decide +kernel), rfl⟩
theorem co_X9_isBetween : (.code yX9_isBetween cX9_isBetween 3 (some .boolean) : Cond) ∈ ab_all := List.mem_filter.mpr ⟨List.mem_of_getElem? (i := 429) (by decide +kernel), rfl⟩
theorem cl_X9_72 : (.classLink RX9 72 "java/lang/IllegalArgumentException" : Cond) ∈ ab_all := List.mem_filter.mpr ⟨List.mem_of_getElem? (i := 430) (by decide +kernel), rfl⟩
theorem ca_432 : (.castable "java/lang/IllegalArgumentException" "java/lang/IllegalArgumentException" : Cond) ∈ ab_nest := List.mem_filter.mpr ⟨List.mem_of_getElem? (i := 432) (by decide +kernel), rfl⟩
theorem dc_433 : (.declares ⟨"java/lang/RuntimeException", "<init>", "()V"⟩ : Cond) ∈ ab_nest := List.mem_filter.mpr ⟨List.mem_of_getElem? (i := 433) (by decide +kernel), rfl⟩
theorem dc_434 : (.declares ⟨"java/lang/RuntimeException", "<init>", "(Ljava/lang/String;)V"⟩ : Cond) ∈ ab_nest := List.mem_filter.mpr ⟨List.mem_of_getElem? (i := 434) (by decide +kernel), rfl⟩
theorem dc_435 : (.declares ⟨"java/lang/Exception", "<init>", "()V"⟩ : Cond) ∈ ab_nest := List.mem_filter.mpr ⟨List.mem_of_getElem? (i := 435) (by decide +kernel), rfl⟩
theorem dc_436 : (.declares ⟨"java/lang/Exception", "<init>", "(Ljava/lang/String;)V"⟩ : Cond) ∈ ab_nest := List.mem_filter.mpr ⟨List.mem_of_getElem? (i := 436) (by decide +kernel), rfl⟩
theorem dc_437 : (.declares ⟨"java/lang/Throwable", "<init>", "()V"⟩ : Cond) ∈ ab_nest := List.mem_filter.mpr ⟨List.mem_of_getElem? (i := 437) (by decide +kernel), rfl⟩
theorem dc_438 : (.declares ⟨"java/lang/Throwable", "<init>", "(Ljava/lang/String;)V"⟩ : Cond) ∈ ab_nest := List.mem_filter.mpr ⟨List.mem_of_getElem? (i := 438) (by decide +kernel), rfl⟩
theorem sm_452 : (.superclass "java/lang/Throwable" "java/lang/Object" : Cond) ∈ ab_all := List.mem_filter.mpr ⟨List.mem_of_getElem? (i := 452) (by decide +kernel), rfl⟩
theorem sm_462 : (.sameMethod "java/lang/Throwable" "java/lang/Throwable" "fillInStackTrace" "()Ljava/lang/Throwable;" : Cond) ∈ ab_all := List.mem_filter.mpr ⟨List.mem_of_getElem? (i := 462) (by decide +kernel), rfl⟩
theorem nt_Throwable_fillInStackTrace : (.native ⟨"java/lang/Throwable", "fillInStackTrace", "(I)Ljava/lang/Throwable;"⟩ : Cond) ∈ ab_all := List.mem_filter.mpr ⟨List.mem_of_getElem? (i := 472) (by decide +kernel), rfl⟩
theorem ml_X9_76 : (.methodLink RX9 76 ⟨"java/lang/IllegalArgumentException", "<init>", "(Ljava/lang/String;)V"⟩ : Cond) ∈ ab_all := List.mem_filter.mpr ⟨List.mem_of_getElem? (i := 474) (by decide +kernel), rfl⟩
theorem sm_498 : (.superclass "java/lang/IllegalArgumentException" "java/lang/RuntimeException" : Cond) ∈ ab_all := List.mem_filter.mpr ⟨List.mem_of_getElem? (i := 498) (by decide +kernel), rfl⟩
theorem ac_byte : (.arrayClass FieldType.byte : Cond) ∈ ab_all := List.mem_filter.mpr ⟨List.mem_of_getElem? (i := 499) (by decide +kernel), rfl⟩
theorem ml_L_151 : (.methodLink RL 151 yL_setWait : Cond) ∈ ab_all := List.mem_filter.mpr ⟨List.mem_of_getElem? (i := 500) (by decide +kernel), rfl⟩
theorem sc_L_setWait : (.static yL_setWait : Cond) ∈ ab_all := List.mem_filter.mpr ⟨List.mem_of_getElem? (i := 501) (by decide +kernel), rfl⟩
theorem co_L_setWait : (.codeWith yL_setWait cL_setWait 4 (some .int) [(0, 9, 12, 13)] : Cond) ∈ ab_all := List.mem_filter.mpr ⟨List.mem_of_getElem? (i := 502) (by decide +kernel), rfl⟩
theorem ml_L_15 : (.methodLink RL 15 yX9_setWait : Cond) ∈ ab_all := List.mem_filter.mpr ⟨List.mem_of_getElem? (i := 503) (by decide +kernel), rfl⟩
theorem im_X9_setWait : (.instanceMethod yX9_setWait : Cond) ∈ ab_all := List.mem_filter.mpr ⟨List.mem_of_getElem? (i := 504) (by decide +kernel), rfl⟩
theorem se_X9_setWait : (.selects RX9 yX9_setWait yX9_setWait : Cond) ∈ ab_all := List.mem_filter.mpr ⟨List.mem_of_getElem? (i := 505) (by decide +kernel), rfl⟩
theorem co_X9_setWait : (.code yX9_setWait cX9_setWait 3 (some .int) : Cond) ∈ ab_all := List.mem_filter.mpr ⟨List.mem_of_getElem? (i := 506) (by decide +kernel), rfl⟩
theorem ml_L_154 : (.methodLink RL 154 yL_addBus : Cond) ∈ ab_all := List.mem_filter.mpr ⟨List.mem_of_getElem? (i := 508) (by decide +kernel), rfl⟩
theorem sc_L_addBus : (.static yL_addBus : Cond) ∈ ab_all := List.mem_filter.mpr ⟨List.mem_of_getElem? (i := 509) (by decide +kernel), rfl⟩
theorem co_L_addBus : (.codeWith yL_addBus cL_addBus 7 (some .int) [(0, 14, 17, 13), (0, 14, 21, 22)] : Cond) ∈ ab_all := List.mem_filter.mpr ⟨List.mem_of_getElem? (i := 510) (by decide +kernel), rfl⟩
theorem cl_L_22 : (.classLink RL 22 "java/lang/IllegalStateException" : Cond) ∈ ab_all := List.mem_filter.mpr ⟨List.mem_of_getElem? (i := 511) (by decide +kernel), rfl⟩
theorem ml_L_18 : (.methodLink RL 18 yX9_addBus : Cond) ∈ ab_all := List.mem_filter.mpr ⟨List.mem_of_getElem? (i := 512) (by decide +kernel), rfl⟩
theorem im_X9_addBus : (.instanceMethod yX9_addBus : Cond) ∈ ab_all := List.mem_filter.mpr ⟨List.mem_of_getElem? (i := 513) (by decide +kernel), rfl⟩
theorem se_X9_addBus : (.selects RX9 yX9_addBus yX9_addBus : Cond) ∈ ab_all := List.mem_filter.mpr ⟨List.mem_of_getElem? (i := 514) (by decide +kernel), rfl⟩
theorem co_X9_addBus : (.code yX9_addBus cX9_addBus 6 (some .int) : Cond) ∈ ab_all := List.mem_filter.mpr ⟨List.mem_of_getElem? (i := 515) (by decide +kernel), rfl⟩
theorem ml_X9_81 : (.methodLink RX9 81 yX9_isInTown : Cond) ∈ ab_all := List.mem_filter.mpr ⟨List.mem_of_getElem? (i := 516) (by decide +kernel), rfl⟩
theorem sc_X9_isInTown : (.static yX9_isInTown : Cond) ∈ ab_all := List.mem_filter.mpr ⟨List.mem_of_getElem? (i := 517) (by decide +kernel), rfl⟩
theorem co_X9_isInTown : (.code yX9_isInTown cX9_isInTown 2 (some .boolean) : Cond) ∈ ab_all := List.mem_filter.mpr ⟨List.mem_of_getElem? (i := 518) (by decide +kernel), rfl⟩
theorem ml_X9_87 : (.methodLink RX9 87 yJx4a65c_size_8abf5 : Cond) ∈ ab_all := List.mem_filter.mpr ⟨List.mem_of_getElem? (i := 520) (by decide +kernel), rfl⟩
theorem cl_X9_91 : (.classLink RX9 91 "java/lang/IllegalStateException" : Cond) ∈ ab_all := List.mem_filter.mpr ⟨List.mem_of_getElem? (i := 521) (by decide +kernel), rfl⟩
theorem ca_523 : (.castable "java/lang/IllegalStateException" "java/lang/IllegalStateException" : Cond) ∈ ab_nest := List.mem_filter.mpr ⟨List.mem_of_getElem? (i := 523) (by decide +kernel), rfl⟩
theorem ml_X9_95 : (.methodLink RX9 95 ⟨"java/lang/IllegalStateException", "<init>", "(Ljava/lang/String;)V"⟩ : Cond) ∈ ab_all := List.mem_filter.mpr ⟨List.mem_of_getElem? (i := 531) (by decide +kernel), rfl⟩
theorem sm_536 : (.superclass "java/lang/IllegalStateException" "java/lang/RuntimeException" : Cond) ∈ ab_all := List.mem_filter.mpr ⟨List.mem_of_getElem? (i := 536) (by decide +kernel), rfl⟩
theorem cl_X9_96 : (.classLink RX9 96 RX1 : Cond) ∈ ab_all := List.mem_filter.mpr ⟨List.mem_of_getElem? (i := 537) (by decide +kernel), rfl⟩
theorem it_X1 : (.instantiable RX1 13 : Cond) ∈ ab_all := List.mem_filter.mpr ⟨List.mem_of_getElem? (i := 538) (by decide +kernel), rfl⟩
theorem mn_X9_98 : (.methodLinkNest RX9 98 yX1_init "ShuttleRow" : Cond) ∈ ab_nest := List.mem_filter.mpr ⟨List.mem_of_getElem? (i := 539) (by decide +kernel), rfl⟩
theorem im_X1_init : (.instanceMethod yX1_init : Cond) ∈ ab_all := List.mem_filter.mpr ⟨List.mem_of_getElem? (i := 540) (by decide +kernel), rfl⟩
theorem co_X1_init : (.code yX1_init cX1_init 6 none : Cond) ∈ ab_all := List.mem_filter.mpr ⟨List.mem_of_getElem? (i := 541) (by decide +kernel), rfl⟩
theorem ml_X1_1 : (.methodLink RX1 1 ⟨"java/lang/Object", "<init>", "()V"⟩ : Cond) ∈ ab_all := List.mem_filter.mpr ⟨List.mem_of_getElem? (i := 542) (by decide +kernel), rfl⟩
theorem cl_X1_7 : (.classLink RX1 7 RX7 : Cond) ∈ ab_all := List.mem_filter.mpr ⟨List.mem_of_getElem? (i := 543) (by decide +kernel), rfl⟩
theorem mn_X1_9 : (.methodLinkNest RX1 9 yX7_init "ShuttleRow" : Cond) ∈ ab_nest := List.mem_filter.mpr ⟨List.mem_of_getElem? (i := 544) (by decide +kernel), rfl⟩
theorem fl_X1_16 : (.fieldLink RX1 16 RX1 "number" "I" : Cond) ∈ ab_all := List.mem_filter.mpr ⟨List.mem_of_getElem? (i := 545) (by decide +kernel), rfl⟩
theorem fn_X9_138 : (.fieldLinkNest RX9 138 RX1 "number" "I" "ShuttleRow" : Cond) ∈ ab_nest := List.mem_filter.mpr ⟨List.mem_of_getElem? (i := 546) (by decide +kernel), rfl⟩
theorem fl_X1_20 : (.fieldLink RX1 20 RX1 "seats" "I" : Cond) ∈ ab_all := List.mem_filter.mpr ⟨List.mem_of_getElem? (i := 547) (by decide +kernel), rfl⟩
theorem fn_X8_98 : (.fieldLinkNest RX8 98 RX1 "seats" "I" "ShuttleRow" : Cond) ∈ ab_nest := List.mem_filter.mpr ⟨List.mem_of_getElem? (i := 548) (by decide +kernel), rfl⟩
theorem fn_X3_100 : (.fieldLinkNest RX3 100 RX1 "seats" "I" "ShuttleRow" : Cond) ∈ ab_nest := List.mem_filter.mpr ⟨List.mem_of_getElem? (i := 549) (by decide +kernel), rfl⟩
theorem fl_X1_23 : (.fieldLink RX1 23 RX1 "capacity" "I" : Cond) ∈ ab_all := List.mem_filter.mpr ⟨List.mem_of_getElem? (i := 550) (by decide +kernel), rfl⟩
theorem fn_X9_384 : (.fieldLinkNest RX9 384 RX1 "capacity" "I" "ShuttleRow" : Cond) ∈ ab_nest := List.mem_filter.mpr ⟨List.mem_of_getElem? (i := 551) (by decide +kernel), rfl⟩
theorem fl_X1_26 : (.fieldLink RX1 26 RX1 "depotX" "I" : Cond) ∈ ab_all := List.mem_filter.mpr ⟨List.mem_of_getElem? (i := 552) (by decide +kernel), rfl⟩
theorem fn_X8_39 : (.fieldLinkNest RX8 39 RX1 "depotX" "I" "ShuttleRow" : Cond) ∈ ab_nest := List.mem_filter.mpr ⟨List.mem_of_getElem? (i := 553) (by decide +kernel), rfl⟩
theorem fn_X3_49 : (.fieldLinkNest RX3 49 RX1 "depotX" "I" "ShuttleRow" : Cond) ∈ ab_nest := List.mem_filter.mpr ⟨List.mem_of_getElem? (i := 554) (by decide +kernel), rfl⟩
theorem fn_X9_378 : (.fieldLinkNest RX9 378 RX1 "depotX" "I" "ShuttleRow" : Cond) ∈ ab_nest := List.mem_filter.mpr ⟨List.mem_of_getElem? (i := 555) (by decide +kernel), rfl⟩
theorem fl_X1_29 : (.fieldLink RX1 29 RX1 "depotY" "I" : Cond) ∈ ab_all := List.mem_filter.mpr ⟨List.mem_of_getElem? (i := 556) (by decide +kernel), rfl⟩
theorem fn_X8_42 : (.fieldLinkNest RX8 42 RX1 "depotY" "I" "ShuttleRow" : Cond) ∈ ab_nest := List.mem_filter.mpr ⟨List.mem_of_getElem? (i := 557) (by decide +kernel), rfl⟩
theorem fn_X3_52 : (.fieldLinkNest RX3 52 RX1 "depotY" "I" "ShuttleRow" : Cond) ∈ ab_nest := List.mem_filter.mpr ⟨List.mem_of_getElem? (i := 558) (by decide +kernel), rfl⟩
theorem fn_X9_381 : (.fieldLinkNest RX9 381 RX1 "depotY" "I" "ShuttleRow" : Cond) ∈ ab_nest := List.mem_filter.mpr ⟨List.mem_of_getElem? (i := 559) (by decide +kernel), rfl⟩
theorem fl_X1_10 : (.fieldLink RX1 10 RX1 "tour" "LShuttleRow$Tour;" : Cond) ∈ ab_all := List.mem_filter.mpr ⟨List.mem_of_getElem? (i := 560) (by decide +kernel), rfl⟩
theorem fn_X2_45 : (.fieldLinkNest RX2 45 RX1 "tour" "LShuttleRow$Tour;" "ShuttleRow" : Cond) ∈ ab_nest := List.mem_filter.mpr ⟨List.mem_of_getElem? (i := 561) (by decide +kernel), rfl⟩
theorem fn_X5_72 : (.fieldLinkNest RX5 72 RX1 "tour" "LShuttleRow$Tour;" "ShuttleRow" : Cond) ∈ ab_nest := List.mem_filter.mpr ⟨List.mem_of_getElem? (i := 562) (by decide +kernel), rfl⟩
theorem fn_X9_142 : (.fieldLinkNest RX9 142 RX1 "tour" "LShuttleRow$Tour;" "ShuttleRow" : Cond) ∈ ab_nest := List.mem_filter.mpr ⟨List.mem_of_getElem? (i := 563) (by decide +kernel), rfl⟩
theorem fl_X1_32 : (.fieldLink RX1 32 RX1 "x" "I" : Cond) ∈ ab_all := List.mem_filter.mpr ⟨List.mem_of_getElem? (i := 564) (by decide +kernel), rfl⟩
theorem fn_X3_19 : (.fieldLinkNest RX3 19 RX1 "x" "I" "ShuttleRow" : Cond) ∈ ab_nest := List.mem_filter.mpr ⟨List.mem_of_getElem? (i := 565) (by decide +kernel), rfl⟩
theorem fn_X8_19 : (.fieldLinkNest RX8 19 RX1 "x" "I" "ShuttleRow" : Cond) ∈ ab_nest := List.mem_filter.mpr ⟨List.mem_of_getElem? (i := 566) (by decide +kernel), rfl⟩
theorem fn_X9_257 : (.fieldLinkNest RX9 257 RX1 "x" "I" "ShuttleRow" : Cond) ∈ ab_nest := List.mem_filter.mpr ⟨List.mem_of_getElem? (i := 567) (by decide +kernel), rfl⟩
theorem fl_X1_35 : (.fieldLink RX1 35 RX1 "y" "I" : Cond) ∈ ab_all := List.mem_filter.mpr ⟨List.mem_of_getElem? (i := 568) (by decide +kernel), rfl⟩
theorem fn_X3_25 : (.fieldLinkNest RX3 25 RX1 "y" "I" "ShuttleRow" : Cond) ∈ ab_nest := List.mem_filter.mpr ⟨List.mem_of_getElem? (i := 569) (by decide +kernel), rfl⟩
theorem fn_X8_26 : (.fieldLinkNest RX8 26 RX1 "y" "I" "ShuttleRow" : Cond) ∈ ab_nest := List.mem_filter.mpr ⟨List.mem_of_getElem? (i := 570) (by decide +kernel), rfl⟩
theorem fn_X9_260 : (.fieldLinkNest RX9 260 RX1 "y" "I" "ShuttleRow" : Cond) ∈ ab_nest := List.mem_filter.mpr ⟨List.mem_of_getElem? (i := 571) (by decide +kernel), rfl⟩
theorem fl_X1_38 : (.fieldLink RX1 38 RX1 "charge" "I" : Cond) ∈ ab_all := List.mem_filter.mpr ⟨List.mem_of_getElem? (i := 572) (by decide +kernel), rfl⟩
theorem fn_X8_65 : (.fieldLinkNest RX8 65 RX1 "charge" "I" "ShuttleRow" : Cond) ∈ ab_nest := List.mem_filter.mpr ⟨List.mem_of_getElem? (i := 573) (by decide +kernel), rfl⟩
theorem fn_X3_78 : (.fieldLinkNest RX3 78 RX1 "charge" "I" "ShuttleRow" : Cond) ∈ ab_nest := List.mem_filter.mpr ⟨List.mem_of_getElem? (i := 574) (by decide +kernel), rfl⟩
theorem fn_X9_263 : (.fieldLinkNest RX9 263 RX1 "charge" "I" "ShuttleRow" : Cond) ∈ ab_nest := List.mem_filter.mpr ⟨List.mem_of_getElem? (i := 575) (by decide +kernel), rfl⟩
theorem fn_X8_33 : (.fieldLinkNest RX8 33 RX1 "onBoard" "I" "ShuttleRow" : Cond) ∈ ab_nest := List.mem_filter.mpr ⟨List.mem_of_getElem? (i := 576) (by decide +kernel), rfl⟩
theorem fl_X1_47 : (.fieldLink RX1 47 RX1 "onBoard" "I" : Cond) ∈ ab_all := List.mem_filter.mpr ⟨List.mem_of_getElem? (i := 577) (by decide +kernel), rfl⟩
theorem fn_X3_81 : (.fieldLinkNest RX3 81 RX1 "onBoard" "I" "ShuttleRow" : Cond) ∈ ab_nest := List.mem_filter.mpr ⟨List.mem_of_getElem? (i := 578) (by decide +kernel), rfl⟩
theorem fn_X9_266 : (.fieldLinkNest RX9 266 RX1 "onBoard" "I" "ShuttleRow" : Cond) ∈ ab_nest := List.mem_filter.mpr ⟨List.mem_of_getElem? (i := 579) (by decide +kernel), rfl⟩
theorem fl_X1_41 : (.fieldLink RX1 41 RX1 "driven" "I" : Cond) ∈ ab_all := List.mem_filter.mpr ⟨List.mem_of_getElem? (i := 580) (by decide +kernel), rfl⟩
theorem fn_X9_269 : (.fieldLinkNest RX9 269 RX1 "driven" "I" "ShuttleRow" : Cond) ∈ ab_nest := List.mem_filter.mpr ⟨List.mem_of_getElem? (i := 581) (by decide +kernel), rfl⟩
theorem fl_X1_50 : (.fieldLink RX1 50 RX1 "drivenEmpty" "I" : Cond) ∈ ab_all := List.mem_filter.mpr ⟨List.mem_of_getElem? (i := 582) (by decide +kernel), rfl⟩
theorem fn_X9_272 : (.fieldLinkNest RX9 272 RX1 "drivenEmpty" "I" "ShuttleRow" : Cond) ∈ ab_nest := List.mem_filter.mpr ⟨List.mem_of_getElem? (i := 583) (by decide +kernel), rfl⟩
theorem fl_X1_44 : (.fieldLink RX1 44 RX1 "riderDistance" "I" : Cond) ∈ ab_all := List.mem_filter.mpr ⟨List.mem_of_getElem? (i := 584) (by decide +kernel), rfl⟩
theorem fn_X9_284 : (.fieldLinkNest RX9 284 RX1 "riderDistance" "I" "ShuttleRow" : Cond) ∈ ab_nest := List.mem_filter.mpr ⟨List.mem_of_getElem? (i := 585) (by decide +kernel), rfl⟩
theorem sm_612 : (.superclass RX1 "java/lang/Object" : Cond) ∈ ab_all := List.mem_filter.mpr ⟨List.mem_of_getElem? (i := 612) (by decide +kernel), rfl⟩
theorem ml_X9_101 : (.methodLink RX9 101 yJx4a65c_add_9ea2d : Cond) ∈ ab_all := List.mem_filter.mpr ⟨List.mem_of_getElem? (i := 613) (by decide +kernel), rfl⟩
theorem im_Jx4a65c_add_9ea2d : (.instanceMethod yJx4a65c_add_9ea2d : Cond) ∈ ab_all := List.mem_filter.mpr ⟨List.mem_of_getElem? (i := 614) (by decide +kernel), rfl⟩
theorem se_Jx4a65c_add_9ea2d : (.selects RJx4a65c yJx4a65c_add_9ea2d yJx4a65c_add_9ea2d : Cond) ∈ ab_all := List.mem_filter.mpr ⟨List.mem_of_getElem? (i := 615) (by decide +kernel), rfl⟩
theorem co_Jx4a65c_add_9ea2d : (.code yJx4a65c_add_9ea2d cJx4a65c_add_9ea2d 2 (some .boolean) : Cond) ∈ ab_all := List.mem_filter.mpr ⟨List.mem_of_getElem? (i := 616) (by decide +kernel), rfl⟩
theorem ml_Jx4a65c_131 : (.methodLink RJx4a65c 131 yJx4a65c_add_72be8 : Cond) ∈ ab_all := List.mem_filter.mpr ⟨List.mem_of_getElem? (i := 617) (by decide +kernel), rfl⟩
theorem im_Jx4a65c_add_72be8 : (.instanceMethod yJx4a65c_add_72be8 : Cond) ∈ ab_all := List.mem_filter.mpr ⟨List.mem_of_getElem? (i := 619) (by decide +kernel), rfl⟩
theorem co_Jx4a65c_add_72be8 : (.code yJx4a65c_add_72be8 cJx4a65c_add_72be8 4 none : Cond) ∈ ab_all := List.mem_filter.mpr ⟨List.mem_of_getElem? (i := 620) (by decide +kernel), rfl⟩
theorem ml_Jx4a65c_129 : (.methodLink RJx4a65c 129 yJx4a65c_grow_d5877 : Cond) ∈ ab_all := List.mem_filter.mpr ⟨List.mem_of_getElem? (i := 621) (by decide +kernel), rfl⟩
theorem im_Jx4a65c_grow_d5877 : (.instanceMethod yJx4a65c_grow_d5877 : Cond) ∈ ab_all := List.mem_filter.mpr ⟨List.mem_of_getElem? (i := 623) (by decide +kernel), rfl⟩
theorem co_Jx4a65c_grow_d5877 : (.code yJx4a65c_grow_d5877 cJx4a65c_grow_d5877 1 (some (.array (.object "java/lang/Object"))) : Cond) ∈ ab_all := List.mem_filter.mpr ⟨List.mem_of_getElem? (i := 624) (by decide +kernel), rfl⟩
theorem ml_Jx4a65c_69 : (.methodLink RJx4a65c 69 yJx4a65c_grow_92f84 : Cond) ∈ ab_all := List.mem_filter.mpr ⟨List.mem_of_getElem? (i := 625) (by decide +kernel), rfl⟩
theorem im_Jx4a65c_grow_92f84 : (.instanceMethod yJx4a65c_grow_92f84 : Cond) ∈ ab_all := List.mem_filter.mpr ⟨List.mem_of_getElem? (i := 627) (by decide +kernel), rfl⟩
theorem co_Jx4a65c_grow_92f84 : (.code yJx4a65c_grow_92f84 cJx4a65c_grow_92f84 4 (some (.array (.object "java/lang/Object"))) : Cond) ∈ ab_all := List.mem_filter.mpr ⟨List.mem_of_getElem? (i := 628) (by decide +kernel), rfl⟩
theorem ml_Jx4a65c_73 : (.methodLink RJx4a65c 73 yJ8_newLength_cabcc : Cond) ∈ ab_all := List.mem_filter.mpr ⟨List.mem_of_getElem? (i := 629) (by decide +kernel), rfl⟩
theorem sc_J8_newLength_cabcc : (.static yJ8_newLength_cabcc : Cond) ∈ ab_all := List.mem_filter.mpr ⟨List.mem_of_getElem? (i := 630) (by decide +kernel), rfl⟩
theorem co_J8_newLength_cabcc : (.code yJ8_newLength_cabcc cJ8_newLength_cabcc 4 (some .int) : Cond) ∈ ab_all := List.mem_filter.mpr ⟨List.mem_of_getElem? (i := 631) (by decide +kernel), rfl⟩
theorem ml_J8_194 : (.methodLink RJ8 194 yJ9_max_7cf53 : Cond) ∈ ab_all := List.mem_filter.mpr ⟨List.mem_of_getElem? (i := 632) (by decide +kernel), rfl⟩
theorem sc_J9_max_7cf53 : (.static yJ9_max_7cf53 : Cond) ∈ ab_all := List.mem_filter.mpr ⟨List.mem_of_getElem? (i := 633) (by decide +kernel), rfl⟩
theorem co_J9_max_7cf53 : (.code yJ9_max_7cf53 cJ9_max_7cf53 2 (some .int) : Cond) ∈ ab_all := List.mem_filter.mpr ⟨List.mem_of_getElem? (i := 634) (by decide +kernel), rfl⟩
theorem kt_J8_200 : (.constant RJ8 200 2147483639 : Cond) ∈ ab_all := List.mem_filter.mpr ⟨List.mem_of_getElem? (i := 635) (by decide +kernel), rfl⟩
theorem ml_J8_201 : (.methodLink RJ8 201 yJ8_hugeLength_7cf53 : Cond) ∈ ab_all := List.mem_filter.mpr ⟨List.mem_of_getElem? (i := 636) (by decide +kernel), rfl⟩
theorem sc_J8_hugeLength_7cf53 : (.static yJ8_hugeLength_7cf53 : Cond) ∈ ab_all := List.mem_filter.mpr ⟨List.mem_of_getElem? (i := 637) (by decide +kernel), rfl⟩
theorem co_J8_hugeLength_7cf53 : (.code yJ8_hugeLength_7cf53 cJ8_hugeLength_7cf53 3 (some .int) : Cond) ∈ ab_all := List.mem_filter.mpr ⟨List.mem_of_getElem? (i := 638) (by decide +kernel), rfl⟩
theorem ml_Jx4a65c_66 : (.methodLink RJx4a65c 66 yJ7_copyOf_1904c : Cond) ∈ ab_all := List.mem_filter.mpr ⟨List.mem_of_getElem? (i := 639) (by decide +kernel), rfl⟩
theorem sc_J7_copyOf_1904c : (.static yJ7_copyOf_1904c : Cond) ∈ ab_all := List.mem_filter.mpr ⟨List.mem_of_getElem? (i := 640) (by decide +kernel), rfl⟩
theorem co_J7_copyOf_1904c : (.code yJ7_copyOf_1904c cJ7_copyOf_1904c 2 (some (.array (.object "java/lang/Object"))) : Cond) ∈ ab_all := List.mem_filter.mpr ⟨List.mem_of_getElem? (i := 641) (by decide +kernel), rfl⟩
theorem ml_J7_86 : (.methodLink RJ7 86 ⟨"java/lang/Object", "getClass", "()Ljava/lang/Class;"⟩ : Cond) ∈ ab_all := List.mem_filter.mpr ⟨List.mem_of_getElem? (i := 642) (by decide +kernel), rfl⟩
theorem sm_644 : (.sameMethod "java/lang/Object" "java/lang/Object" "getClass" "()Ljava/lang/Class;" : Cond) ∈ ab_all := List.mem_filter.mpr ⟨List.mem_of_getElem? (i := 644) (by decide +kernel), rfl⟩
theorem nt_Object_getClass : (.native ⟨"java/lang/Object", "getClass", "()Ljava/lang/Class;"⟩ : Cond) ∈ ab_all := List.mem_filter.mpr ⟨List.mem_of_getElem? (i := 662) (by decide +kernel), rfl⟩
theorem ml_J7_300 : (.methodLink RJ7 300 yJ7_copyOf_6403c : Cond) ∈ ab_all := List.mem_filter.mpr ⟨List.mem_of_getElem? (i := 663) (by decide +kernel), rfl⟩
theorem sc_J7_copyOf_6403c : (.static yJ7_copyOf_6403c : Cond) ∈ ab_all := List.mem_filter.mpr ⟨List.mem_of_getElem? (i := 664) (by decide +kernel), rfl⟩
theorem co_J7_copyOf_6403c : (.code yJ7_copyOf_6403c cJ7_copyOf_6403c 4 (some (.array (.object "java/lang/Object"))) : Cond) ∈ ab_all := List.mem_filter.mpr ⟨List.mem_of_getElem? (i := 665) (by decide +kernel), rfl⟩
theorem cl_J7_110 : (.classLink RJ7 110 "[Ljava/lang/Object;" : Cond) ∈ ab_all := List.mem_filter.mpr ⟨List.mem_of_getElem? (i := 666) (by decide +kernel), rfl⟩
theorem cl_J7_2 : (.classLink RJ7 2 "java/lang/Object" : Cond) ∈ ab_all := List.mem_filter.mpr ⟨List.mem_of_getElem? (i := 668) (by decide +kernel), rfl⟩
theorem ml_J7_304 : (.methodLink RJ7 304 yJ9_min_7cf53 : Cond) ∈ ab_all := List.mem_filter.mpr ⟨List.mem_of_getElem? (i := 669) (by decide +kernel), rfl⟩
theorem sc_J9_min_7cf53 : (.static yJ9_min_7cf53 : Cond) ∈ ab_all := List.mem_filter.mpr ⟨List.mem_of_getElem? (i := 670) (by decide +kernel), rfl⟩
theorem co_J9_min_7cf53 : (.code yJ9_min_7cf53 cJ9_min_7cf53 2 (some .int) : Cond) ∈ ab_all := List.mem_filter.mpr ⟨List.mem_of_getElem? (i := 671) (by decide +kernel), rfl⟩
theorem ml_J7_150 : (.methodLink RJ7 150 ⟨"java/lang/System", "arraycopy", "(Ljava/lang/Object;ILjava/lang/Object;II)V"⟩ : Cond) ∈ ab_all := List.mem_filter.mpr ⟨List.mem_of_getElem? (i := 672) (by decide +kernel), rfl⟩
theorem nt_System_arraycopy : (.native ⟨"java/lang/System", "arraycopy", "(Ljava/lang/Object;ILjava/lang/Object;II)V"⟩ : Cond) ∈ ab_all := List.mem_filter.mpr ⟨List.mem_of_getElem? (i := 674) (by decide +kernel), rfl⟩
theorem ml_Jx4a65c_79 : (.methodLink RJx4a65c 79 yJ9_max_7cf53 : Cond) ∈ ab_all := List.mem_filter.mpr ⟨List.mem_of_getElem? (i := 675) (by decide +kernel), rfl⟩
theorem cl_Jx4a65c_7 : (.classLink RJx4a65c 7 "java/lang/Object" : Cond) ∈ ab_all := List.mem_filter.mpr ⟨List.mem_of_getElem? (i := 676) (by decide +kernel), rfl⟩
theorem ml_L_158 : (.methodLink RL 158 yL_request : Cond) ∈ ab_all := List.mem_filter.mpr ⟨List.mem_of_getElem? (i := 677) (by decide +kernel), rfl⟩
theorem sc_L_request : (.static yL_request : Cond) ∈ ab_all := List.mem_filter.mpr ⟨List.mem_of_getElem? (i := 678) (by decide +kernel), rfl⟩
theorem co_L_request : (.codeWith yL_request cL_request 8 (some .int) [(0, 16, 19, 13), (0, 16, 23, 28), (0, 16, 27, 22)] : Cond) ∈ ab_all := List.mem_filter.mpr ⟨List.mem_of_getElem? (i := 679) (by decide +kernel), rfl⟩
theorem cl_L_28 : (.classLink RL 28 "java/lang/UnsupportedOperationException" : Cond) ∈ ab_all := List.mem_filter.mpr ⟨List.mem_of_getElem? (i := 680) (by decide +kernel), rfl⟩
theorem ml_L_24 : (.methodLink RL 24 yX9_request : Cond) ∈ ab_all := List.mem_filter.mpr ⟨List.mem_of_getElem? (i := 681) (by decide +kernel), rfl⟩
theorem im_X9_request : (.instanceMethod yX9_request : Cond) ∈ ab_all := List.mem_filter.mpr ⟨List.mem_of_getElem? (i := 682) (by decide +kernel), rfl⟩
theorem se_X9_request : (.selects RX9 yX9_request yX9_request : Cond) ∈ ab_all := List.mem_filter.mpr ⟨List.mem_of_getElem? (i := 683) (by decide +kernel), rfl⟩
theorem co_X9_request : (.code yX9_request cX9_request 9 (some .int) : Cond) ∈ ab_all := List.mem_filter.mpr ⟨List.mem_of_getElem? (i := 684) (by decide +kernel), rfl⟩
theorem ml_X9_105 : (.methodLink RX9 105 yX9_takeWish : Cond) ∈ ab_all := List.mem_filter.mpr ⟨List.mem_of_getElem? (i := 685) (by decide +kernel), rfl⟩
theorem im_X9_takeWish : (.instanceMethod yX9_takeWish : Cond) ∈ ab_all := List.mem_filter.mpr ⟨List.mem_of_getElem? (i := 687) (by decide +kernel), rfl⟩
theorem co_X9_takeWish : (.code yX9_takeWish cX9_takeWish 7 none : Cond) ∈ ab_all := List.mem_filter.mpr ⟨List.mem_of_getElem? (i := 688) (by decide +kernel), rfl⟩
theorem ml_X9_334 : (.methodLink RX9 334 yX9_checkWish : Cond) ∈ ab_all := List.mem_filter.mpr ⟨List.mem_of_getElem? (i := 689) (by decide +kernel), rfl⟩
theorem im_X9_checkWish : (.instanceMethod yX9_checkWish : Cond) ∈ ab_all := List.mem_filter.mpr ⟨List.mem_of_getElem? (i := 691) (by decide +kernel), rfl⟩
theorem co_X9_checkWish : (.code yX9_checkWish cX9_checkWish 6 none : Cond) ∈ ab_all := List.mem_filter.mpr ⟨List.mem_of_getElem? (i := 692) (by decide +kernel), rfl⟩
theorem cl_X9_323 : (.classLink RX9 323 "java/lang/UnsupportedOperationException" : Cond) ∈ ab_all := List.mem_filter.mpr ⟨List.mem_of_getElem? (i := 694) (by decide +kernel), rfl⟩
theorem ca_696 : (.castable "java/lang/UnsupportedOperationException" "java/lang/UnsupportedOperationException" : Cond) ∈ ab_nest := List.mem_filter.mpr ⟨List.mem_of_getElem? (i := 696) (by decide +kernel), rfl⟩
theorem ml_X9_327 : (.methodLink RX9 327 ⟨"java/lang/UnsupportedOperationException", "<init>", "(Ljava/lang/String;)V"⟩ : Cond) ∈ ab_all := List.mem_filter.mpr ⟨List.mem_of_getElem? (i := 704) (by decide +kernel), rfl⟩
theorem sm_709 : (.superclass "java/lang/UnsupportedOperationException" "java/lang/RuntimeException" : Cond) ∈ ab_all := List.mem_filter.mpr ⟨List.mem_of_getElem? (i := 709) (by decide +kernel), rfl⟩
theorem ml_X9_356 : (.methodLink RX9 356 yX9_distance : Cond) ∈ ab_all := List.mem_filter.mpr ⟨List.mem_of_getElem? (i := 710) (by decide +kernel), rfl⟩
theorem sc_X9_distance : (.static yX9_distance : Cond) ∈ ab_all := List.mem_filter.mpr ⟨List.mem_of_getElem? (i := 711) (by decide +kernel), rfl⟩
theorem co_X9_distance : (.code yX9_distance cX9_distance 4 (some .int) : Cond) ∈ ab_all := List.mem_filter.mpr ⟨List.mem_of_getElem? (i := 712) (by decide +kernel), rfl⟩
theorem ml_X9_401 : (.methodLink RX9 401 yJ9_abs_0f7a4 : Cond) ∈ ab_all := List.mem_filter.mpr ⟨List.mem_of_getElem? (i := 713) (by decide +kernel), rfl⟩
theorem sc_J9_abs_0f7a4 : (.static yJ9_abs_0f7a4 : Cond) ∈ ab_all := List.mem_filter.mpr ⟨List.mem_of_getElem? (i := 714) (by decide +kernel), rfl⟩
theorem co_J9_abs_0f7a4 : (.code yJ9_abs_0f7a4 cJ9_abs_0f7a4 1 (some .int) : Cond) ∈ ab_all := List.mem_filter.mpr ⟨List.mem_of_getElem? (i := 715) (by decide +kernel), rfl⟩
theorem mn_X9_113 : (.methodLinkNest RX9 113 yX2_tryAll "ShuttleRow" : Cond) ∈ ab_nest := List.mem_filter.mpr ⟨List.mem_of_getElem? (i := 717) (by decide +kernel), rfl⟩
theorem im_X2_tryAll : (.instanceMethod yX2_tryAll : Cond) ∈ ab_all := List.mem_filter.mpr ⟨List.mem_of_getElem? (i := 719) (by decide +kernel), rfl⟩
theorem co_X2_tryAll : (.code yX2_tryAll cX2_tryAll 11 none : Cond) ∈ ab_all := List.mem_filter.mpr ⟨List.mem_of_getElem? (i := 720) (by decide +kernel), rfl⟩
theorem ml_X2_30 : (.methodLink RX2 30 yX2_forget : Cond) ∈ ab_all := List.mem_filter.mpr ⟨List.mem_of_getElem? (i := 721) (by decide +kernel), rfl⟩
theorem im_X2_forget : (.instanceMethod yX2_forget : Cond) ∈ ab_all := List.mem_filter.mpr ⟨List.mem_of_getElem? (i := 723) (by decide +kernel), rfl⟩
theorem co_X2_forget : (.code yX2_forget cX2_forget 1 none : Cond) ∈ ab_all := List.mem_filter.mpr ⟨List.mem_of_getElem? (i := 724) (by decide +kernel), rfl⟩
theorem kt_X2_85 : (.constant RX2 85 1000000 : Cond) ∈ ab_all := List.mem_filter.mpr ⟨List.mem_of_getElem? (i := 725) (by decide +kernel), rfl⟩
theorem ml_X2_33 : (.methodLink RX2 33 yJx4a65c_size_8abf5 : Cond) ∈ ab_all := List.mem_filter.mpr ⟨List.mem_of_getElem? (i := 726) (by decide +kernel), rfl⟩
theorem ml_X2_39 : (.methodLink RX2 39 yJx4a65c_get_915e3 : Cond) ∈ ab_all := List.mem_filter.mpr ⟨List.mem_of_getElem? (i := 727) (by decide +kernel), rfl⟩
theorem im_Jx4a65c_get_915e3 : (.instanceMethod yJx4a65c_get_915e3 : Cond) ∈ ab_all := List.mem_filter.mpr ⟨List.mem_of_getElem? (i := 728) (by decide +kernel), rfl⟩
theorem se_Jx4a65c_get_915e3 : (.selects RJx4a65c yJx4a65c_get_915e3 yJx4a65c_get_915e3 : Cond) ∈ ab_all := List.mem_filter.mpr ⟨List.mem_of_getElem? (i := 729) (by decide +kernel), rfl⟩
theorem co_Jx4a65c_get_915e3 : (.code yJx4a65c_get_915e3 cJx4a65c_get_915e3 2 (some (.object "java/lang/Object")) : Cond) ∈ ab_all := List.mem_filter.mpr ⟨List.mem_of_getElem? (i := 730) (by decide +kernel), rfl⟩
theorem ml_Jx4a65c_118 : (.methodLink RJx4a65c 118 yJ15_checkIndex_7cf53 : Cond) ∈ ab_all := List.mem_filter.mpr ⟨List.mem_of_getElem? (i := 731) (by decide +kernel), rfl⟩
theorem sc_J15_checkIndex_7cf53 : (.static yJ15_checkIndex_7cf53 : Cond) ∈ ab_all := List.mem_filter.mpr ⟨List.mem_of_getElem? (i := 732) (by decide +kernel), rfl⟩
theorem co_J15_checkIndex_7cf53 : (.code yJ15_checkIndex_7cf53 cJ15_checkIndex_7cf53 2 (some .int) : Cond) ∈ ab_all := List.mem_filter.mpr ⟨List.mem_of_getElem? (i := 733) (by decide +kernel), rfl⟩
theorem ml_J15_105 : (.methodLink RJ15 105 yJ3_checkIndex_8e157 : Cond) ∈ ab_all := List.mem_filter.mpr ⟨List.mem_of_getElem? (i := 734) (by decide +kernel), rfl⟩
theorem sc_J3_checkIndex_8e157 : (.static yJ3_checkIndex_8e157 : Cond) ∈ ab_all := List.mem_filter.mpr ⟨List.mem_of_getElem? (i := 735) (by decide +kernel), rfl⟩
theorem co_J3_checkIndex_8e157 : (.code yJ3_checkIndex_8e157 cJ3_checkIndex_8e157 3 (some .int) : Cond) ∈ ab_all := List.mem_filter.mpr ⟨List.mem_of_getElem? (i := 736) (by decide +kernel), rfl⟩
theorem ml_Jx4a65c_123 : (.methodLink RJx4a65c 123 yJx4a65c_elementData_915e3 : Cond) ∈ ab_all := List.mem_filter.mpr ⟨List.mem_of_getElem? (i := 737) (by decide +kernel), rfl⟩
theorem im_Jx4a65c_elementData_915e3 : (.instanceMethod yJx4a65c_elementData_915e3 : Cond) ∈ ab_all := List.mem_filter.mpr ⟨List.mem_of_getElem? (i := 738) (by decide +kernel), rfl⟩
theorem se_Jx4a65c_elementData_915e3 : (.selects RJx4a65c yJx4a65c_elementData_915e3 yJx4a65c_elementData_915e3 : Cond) ∈ ab_all := List.mem_filter.mpr ⟨List.mem_of_getElem? (i := 739) (by decide +kernel), rfl⟩
theorem co_Jx4a65c_elementData_915e3 : (.code yJx4a65c_elementData_915e3 cJx4a65c_elementData_915e3 2 (some (.object "java/lang/Object")) : Cond) ∈ ab_all := List.mem_filter.mpr ⟨List.mem_of_getElem? (i := 740) (by decide +kernel), rfl⟩
theorem cl_X2_43 : (.classLink RX2 43 RX1 : Cond) ∈ ab_all := List.mem_filter.mpr ⟨List.mem_of_getElem? (i := 741) (by decide +kernel), rfl⟩
theorem mn_X2_48 : (.methodLinkNest RX2 48 yX3_lengthOf "ShuttleRow" : Cond) ∈ ab_nest := List.mem_filter.mpr ⟨List.mem_of_getElem? (i := 742) (by decide +kernel), rfl⟩
theorem im_X3_lengthOf : (.instanceMethod yX3_lengthOf : Cond) ∈ ab_all := List.mem_filter.mpr ⟨List.mem_of_getElem? (i := 744) (by decide +kernel), rfl⟩
theorem co_X3_lengthOf : (.code yX3_lengthOf cX3_lengthOf 8 (some .int) : Cond) ∈ ab_all := List.mem_filter.mpr ⟨List.mem_of_getElem? (i := 745) (by decide +kernel), rfl⟩
theorem mn_X3_33 : (.methodLinkNest RX3 33 yX7_stopAt "ShuttleRow" : Cond) ∈ ab_nest := List.mem_filter.mpr ⟨List.mem_of_getElem? (i := 746) (by decide +kernel), rfl⟩
theorem im_X7_stopAt : (.instanceMethod yX7_stopAt : Cond) ∈ ab_all := List.mem_filter.mpr ⟨List.mem_of_getElem? (i := 748) (by decide +kernel), rfl⟩
theorem co_X7_stopAt : (.code yX7_stopAt cX7_stopAt 2 (some .int) : Cond) ∈ ab_all := List.mem_filter.mpr ⟨List.mem_of_getElem? (i := 749) (by decide +kernel), rfl⟩
theorem mn_X3_37 : (.methodLinkNest RX3 37 yX0_wayTo "ShuttleRow" : Cond) ∈ ab_nest := List.mem_filter.mpr ⟨List.mem_of_getElem? (i := 750) (by decide +kernel), rfl⟩
theorem im_X0_wayTo : (.instanceMethod yX0_wayTo : Cond) ∈ ab_all := List.mem_filter.mpr ⟨List.mem_of_getElem? (i := 752) (by decide +kernel), rfl⟩
theorem co_X0_wayTo : (.code yX0_wayTo cX0_wayTo 4 (some .int) : Cond) ∈ ab_all := List.mem_filter.mpr ⟨List.mem_of_getElem? (i := 753) (by decide +kernel), rfl⟩
theorem ml_X0_62 : (.methodLink RX0 62 yX0_xOf : Cond) ∈ ab_all := List.mem_filter.mpr ⟨List.mem_of_getElem? (i := 754) (by decide +kernel), rfl⟩
theorem im_X0_xOf : (.instanceMethod yX0_xOf : Cond) ∈ ab_all := List.mem_filter.mpr ⟨List.mem_of_getElem? (i := 756) (by decide +kernel), rfl⟩
theorem co_X0_xOf : (.code yX0_xOf cX0_xOf 3 (some .int) : Cond) ∈ ab_all := List.mem_filter.mpr ⟨List.mem_of_getElem? (i := 757) (by decide +kernel), rfl⟩
theorem mn_X0_35 : (.methodLinkNest RX0 35 yX9_requestOf "ShuttleRow" : Cond) ∈ ab_nest := List.mem_filter.mpr ⟨List.mem_of_getElem? (i := 758) (by decide +kernel), rfl⟩
theorem sc_X9_requestOf : (.static yX9_requestOf : Cond) ∈ ab_all := List.mem_filter.mpr ⟨List.mem_of_getElem? (i := 759) (by decide +kernel), rfl⟩
theorem co_X9_requestOf : (.code yX9_requestOf cX9_requestOf 1 (some .int) : Cond) ∈ ab_all := List.mem_filter.mpr ⟨List.mem_of_getElem? (i := 760) (by decide +kernel), rfl⟩
theorem ml_X0_41 : (.methodLink RX0 41 yX0_requestAt : Cond) ∈ ab_all := List.mem_filter.mpr ⟨List.mem_of_getElem? (i := 761) (by decide +kernel), rfl⟩
theorem im_X0_requestAt : (.instanceMethod yX0_requestAt : Cond) ∈ ab_all := List.mem_filter.mpr ⟨List.mem_of_getElem? (i := 763) (by decide +kernel), rfl⟩
theorem co_X0_requestAt : (.code yX0_requestAt cX0_requestAt 2 (some (.object "ShuttleRow$Request")) : Cond) ∈ ab_all := List.mem_filter.mpr ⟨List.mem_of_getElem? (i := 764) (by decide +kernel), rfl⟩
theorem ml_X0_27 : (.methodLink RX0 27 yJx4a65c_get_915e3 : Cond) ∈ ab_all := List.mem_filter.mpr ⟨List.mem_of_getElem? (i := 765) (by decide +kernel), rfl⟩
theorem mn_X0_45 : (.methodLinkNest RX0 45 yX9_picksUp "ShuttleRow" : Cond) ∈ ab_nest := List.mem_filter.mpr ⟨List.mem_of_getElem? (i := 766) (by decide +kernel), rfl⟩
theorem sc_X9_picksUp : (.static yX9_picksUp : Cond) ∈ ab_all := List.mem_filter.mpr ⟨List.mem_of_getElem? (i := 767) (by decide +kernel), rfl⟩
theorem co_X9_picksUp : (.code yX9_picksUp cX9_picksUp 1 (some .boolean) : Cond) ∈ ab_all := List.mem_filter.mpr ⟨List.mem_of_getElem? (i := 768) (by decide +kernel), rfl⟩
theorem ml_X0_65 : (.methodLink RX0 65 yX0_yOf : Cond) ∈ ab_all := List.mem_filter.mpr ⟨List.mem_of_getElem? (i := 769) (by decide +kernel), rfl⟩
theorem im_X0_yOf : (.instanceMethod yX0_yOf : Cond) ∈ ab_all := List.mem_filter.mpr ⟨List.mem_of_getElem? (i := 771) (by decide +kernel), rfl⟩
theorem co_X0_yOf : (.code yX0_yOf cX0_yOf 3 (some .int) : Cond) ∈ ab_all := List.mem_filter.mpr ⟨List.mem_of_getElem? (i := 772) (by decide +kernel), rfl⟩
theorem mn_X0_68 : (.methodLinkNest RX0 68 yX9_distance "ShuttleRow" : Cond) ∈ ab_nest := List.mem_filter.mpr ⟨List.mem_of_getElem? (i := 773) (by decide +kernel), rfl⟩
theorem mn_X3_43 : (.methodLinkNest RX3 43 yX0_xOf "ShuttleRow" : Cond) ∈ ab_nest := List.mem_filter.mpr ⟨List.mem_of_getElem? (i := 774) (by decide +kernel), rfl⟩
theorem mn_X3_46 : (.methodLinkNest RX3 46 yX0_yOf "ShuttleRow" : Cond) ∈ ab_nest := List.mem_filter.mpr ⟨List.mem_of_getElem? (i := 775) (by decide +kernel), rfl⟩
theorem mn_X3_55 : (.methodLinkNest RX3 55 yX9_distance "ShuttleRow" : Cond) ∈ ab_nest := List.mem_filter.mpr ⟨List.mem_of_getElem? (i := 776) (by decide +kernel), rfl⟩
theorem ml_X2_57 : (.methodLink RX2 57 yX2_lay : Cond) ∈ ab_all := List.mem_filter.mpr ⟨List.mem_of_getElem? (i := 777) (by decide +kernel), rfl⟩
theorem im_X2_lay : (.instanceMethod yX2_lay : Cond) ∈ ab_all := List.mem_filter.mpr ⟨List.mem_of_getElem? (i := 779) (by decide +kernel), rfl⟩
theorem co_X2_lay : (.code yX2_lay cX2_lay 6 none : Cond) ∈ ab_all := List.mem_filter.mpr ⟨List.mem_of_getElem? (i := 780) (by decide +kernel), rfl⟩
theorem mn_X2_101 : (.methodLinkNest RX2 101 yX9_pickupOf "ShuttleRow" : Cond) ∈ ab_nest := List.mem_filter.mpr ⟨List.mem_of_getElem? (i := 781) (by decide +kernel), rfl⟩
theorem sc_X9_pickupOf : (.static yX9_pickupOf : Cond) ∈ ab_all := List.mem_filter.mpr ⟨List.mem_of_getElem? (i := 782) (by decide +kernel), rfl⟩
theorem co_X9_pickupOf : (.code yX9_pickupOf cX9_pickupOf 1 (some .int) : Cond) ∈ ab_all := List.mem_filter.mpr ⟨List.mem_of_getElem? (i := 783) (by decide +kernel), rfl⟩
theorem mn_X2_105 : (.methodLinkNest RX2 105 yX7_add "ShuttleRow" : Cond) ∈ ab_nest := List.mem_filter.mpr ⟨List.mem_of_getElem? (i := 784) (by decide +kernel), rfl⟩
theorem im_X7_add : (.instanceMethod yX7_add : Cond) ∈ ab_all := List.mem_filter.mpr ⟨List.mem_of_getElem? (i := 786) (by decide +kernel), rfl⟩
theorem co_X7_add : (.code yX7_add cX7_add 2 none : Cond) ∈ ab_all := List.mem_filter.mpr ⟨List.mem_of_getElem? (i := 787) (by decide +kernel), rfl⟩
theorem ml_X7_23 : (.methodLink RX7 23 yX7_set : Cond) ∈ ab_all := List.mem_filter.mpr ⟨List.mem_of_getElem? (i := 788) (by decide +kernel), rfl⟩
theorem im_X7_set : (.instanceMethod yX7_set : Cond) ∈ ab_all := List.mem_filter.mpr ⟨List.mem_of_getElem? (i := 790) (by decide +kernel), rfl⟩
theorem co_X7_set : (.code yX7_set cX7_set 3 none : Cond) ∈ ab_all := List.mem_filter.mpr ⟨List.mem_of_getElem? (i := 791) (by decide +kernel), rfl⟩
theorem mn_X2_109 : (.methodLinkNest RX2 109 yX9_dropOf "ShuttleRow" : Cond) ∈ ab_nest := List.mem_filter.mpr ⟨List.mem_of_getElem? (i := 792) (by decide +kernel), rfl⟩
theorem sc_X9_dropOf : (.static yX9_dropOf : Cond) ∈ ab_all := List.mem_filter.mpr ⟨List.mem_of_getElem? (i := 793) (by decide +kernel), rfl⟩
theorem co_X9_dropOf : (.code yX9_dropOf cX9_dropOf 1 (some .int) : Cond) ∈ ab_all := List.mem_filter.mpr ⟨List.mem_of_getElem? (i := 794) (by decide +kernel), rfl⟩
theorem mn_X2_112 : (.methodLinkNest RX2 112 yX7_stopAt "ShuttleRow" : Cond) ∈ ab_nest := List.mem_filter.mpr ⟨List.mem_of_getElem? (i := 795) (by decide +kernel), rfl⟩
theorem mn_X2_61 : (.methodLinkNest RX2 61 yX3_faultOf "ShuttleRow" : Cond) ∈ ab_nest := List.mem_filter.mpr ⟨List.mem_of_getElem? (i := 796) (by decide +kernel), rfl⟩
theorem im_X3_faultOf : (.instanceMethod yX3_faultOf : Cond) ∈ ab_all := List.mem_filter.mpr ⟨List.mem_of_getElem? (i := 798) (by decide +kernel), rfl⟩
theorem co_X3_faultOf : (.code yX3_faultOf cX3_faultOf 4 (some .int) : Cond) ∈ ab_all := List.mem_filter.mpr ⟨List.mem_of_getElem? (i := 799) (by decide +kernel), rfl⟩
theorem ml_X3_59 : (.methodLink RX3 59 yX3_clock : Cond) ∈ ab_all := List.mem_filter.mpr ⟨List.mem_of_getElem? (i := 800) (by decide +kernel), rfl⟩
theorem im_X3_clock : (.instanceMethod yX3_clock : Cond) ∈ ab_all := List.mem_filter.mpr ⟨List.mem_of_getElem? (i := 802) (by decide +kernel), rfl⟩
theorem co_X3_clock : (.code yX3_clock cX3_clock 9 none : Cond) ∈ ab_all := List.mem_filter.mpr ⟨List.mem_of_getElem? (i := 803) (by decide +kernel), rfl⟩
theorem ml_X3_63 : (.methodLink RX3 63 yX3_lacksSeats : Cond) ∈ ab_all := List.mem_filter.mpr ⟨List.mem_of_getElem? (i := 804) (by decide +kernel), rfl⟩
theorem im_X3_lacksSeats : (.instanceMethod yX3_lacksSeats : Cond) ∈ ab_all := List.mem_filter.mpr ⟨List.mem_of_getElem? (i := 806) (by decide +kernel), rfl⟩
theorem co_X3_lacksSeats : (.code yX3_lacksSeats cX3_lacksSeats 7 (some .boolean) : Cond) ∈ ab_all := List.mem_filter.mpr ⟨List.mem_of_getElem? (i := 807) (by decide +kernel), rfl⟩
theorem mn_X3_84 : (.methodLinkNest RX3 84 yX9_requestOf "ShuttleRow" : Cond) ∈ ab_nest := List.mem_filter.mpr ⟨List.mem_of_getElem? (i := 808) (by decide +kernel), rfl⟩
theorem mn_X3_87 : (.methodLinkNest RX3 87 yX0_requestAt "ShuttleRow" : Cond) ∈ ab_nest := List.mem_filter.mpr ⟨List.mem_of_getElem? (i := 809) (by decide +kernel), rfl⟩
theorem mn_X3_96 : (.methodLinkNest RX3 96 yX9_picksUp "ShuttleRow" : Cond) ∈ ab_nest := List.mem_filter.mpr ⟨List.mem_of_getElem? (i := 810) (by decide +kernel), rfl⟩
theorem ml_X3_67 : (.methodLink RX3 67 yX3_comesLate : Cond) ∈ ab_all := List.mem_filter.mpr ⟨List.mem_of_getElem? (i := 811) (by decide +kernel), rfl⟩
theorem im_X3_comesLate : (.instanceMethod yX3_comesLate : Cond) ∈ ab_all := List.mem_filter.mpr ⟨List.mem_of_getElem? (i := 813) (by decide +kernel), rfl⟩
theorem co_X3_comesLate : (.code yX3_comesLate cX3_comesLate 4 (some .boolean) : Cond) ∈ ab_all := List.mem_filter.mpr ⟨List.mem_of_getElem? (i := 814) (by decide +kernel), rfl⟩
theorem ml_X3_103 : (.methodLink RX3 103 yX3_timeAt : Cond) ∈ ab_all := List.mem_filter.mpr ⟨List.mem_of_getElem? (i := 815) (by decide +kernel), rfl⟩
theorem im_X3_timeAt : (.instanceMethod yX3_timeAt : Cond) ∈ ab_all := List.mem_filter.mpr ⟨List.mem_of_getElem? (i := 817) (by decide +kernel), rfl⟩
theorem co_X3_timeAt : (.code yX3_timeAt cX3_timeAt 2 (some .int) : Cond) ∈ ab_all := List.mem_filter.mpr ⟨List.mem_of_getElem? (i := 818) (by decide +kernel), rfl⟩
theorem ml_X3_71 : (.methodLink RX3 71 yX3_ridesLong : Cond) ∈ ab_all := List.mem_filter.mpr ⟨List.mem_of_getElem? (i := 819) (by decide +kernel), rfl⟩
theorem im_X3_ridesLong : (.instanceMethod yX3_ridesLong : Cond) ∈ ab_all := List.mem_filter.mpr ⟨List.mem_of_getElem? (i := 821) (by decide +kernel), rfl⟩
theorem co_X3_ridesLong : (.code yX3_ridesLong cX3_ridesLong 7 (some .boolean) : Cond) ∈ ab_all := List.mem_filter.mpr ⟨List.mem_of_getElem? (i := 822) (by decide +kernel), rfl⟩
theorem mn_X3_109 : (.methodLinkNest RX3 109 yX9_pickupOf "ShuttleRow" : Cond) ∈ ab_nest := List.mem_filter.mpr ⟨List.mem_of_getElem? (i := 823) (by decide +kernel), rfl⟩
theorem mn_X3_112 : (.methodLinkNest RX3 112 yX7_indexOf "ShuttleRow" : Cond) ∈ ab_nest := List.mem_filter.mpr ⟨List.mem_of_getElem? (i := 824) (by decide +kernel), rfl⟩
theorem im_X7_indexOf : (.instanceMethod yX7_indexOf : Cond) ∈ ab_all := List.mem_filter.mpr ⟨List.mem_of_getElem? (i := 826) (by decide +kernel), rfl⟩
theorem co_X7_indexOf : (.code yX7_indexOf cX7_indexOf 3 (some .int) : Cond) ∈ ab_all := List.mem_filter.mpr ⟨List.mem_of_getElem? (i := 827) (by decide +kernel), rfl⟩
theorem ml_X7_19 : (.methodLink RX7 19 yX7_stopAt : Cond) ∈ ab_all := List.mem_filter.mpr ⟨List.mem_of_getElem? (i := 828) (by decide +kernel), rfl⟩
theorem ml_X3_74 : (.methodLink RX3 74 yX3_lengthOf : Cond) ∈ ab_all := List.mem_filter.mpr ⟨List.mem_of_getElem? (i := 829) (by decide +kernel), rfl⟩
theorem ml_X2_68 : (.methodLink RX2 68 yJ9_max_7cf53 : Cond) ∈ ab_all := List.mem_filter.mpr ⟨List.mem_of_getElem? (i := 830) (by decide +kernel), rfl⟩
theorem ml_X2_77 : (.methodLink RX2 77 yX2_keep : Cond) ∈ ab_all := List.mem_filter.mpr ⟨List.mem_of_getElem? (i := 831) (by decide +kernel), rfl⟩
theorem im_X2_keep : (.instanceMethod yX2_keep : Cond) ∈ ab_all := List.mem_filter.mpr ⟨List.mem_of_getElem? (i := 833) (by decide +kernel), rfl⟩
theorem co_X2_keep : (.code yX2_keep cX2_keep 5 none : Cond) ∈ ab_all := List.mem_filter.mpr ⟨List.mem_of_getElem? (i := 834) (by decide +kernel), rfl⟩
theorem mn_X9_117 : (.methodLinkNest RX9 117 yX0_keepWish "ShuttleRow" : Cond) ∈ ab_nest := List.mem_filter.mpr ⟨List.mem_of_getElem? (i := 835) (by decide +kernel), rfl⟩
theorem im_X0_keepWish : (.instanceMethod yX0_keepWish : Cond) ∈ ab_all := List.mem_filter.mpr ⟨List.mem_of_getElem? (i := 837) (by decide +kernel), rfl⟩
theorem co_X0_keepWish : (.code yX0_keepWish cX0_keepWish 2 (some (.object "ShuttleRow$Request")) : Cond) ∈ ab_all := List.mem_filter.mpr ⟨List.mem_of_getElem? (i := 838) (by decide +kernel), rfl⟩
theorem ml_X0_31 : (.methodLink RX0 31 yJx4a65c_add_9ea2d : Cond) ∈ ab_all := List.mem_filter.mpr ⟨List.mem_of_getElem? (i := 839) (by decide +kernel), rfl⟩
theorem mn_X9_121 : (.methodLinkNest RX9 121 yX2_isFound "ShuttleRow" : Cond) ∈ ab_nest := List.mem_filter.mpr ⟨List.mem_of_getElem? (i := 840) (by decide +kernel), rfl⟩
theorem im_X2_isFound : (.instanceMethod yX2_isFound : Cond) ∈ ab_all := List.mem_filter.mpr ⟨List.mem_of_getElem? (i := 842) (by decide +kernel), rfl⟩
theorem co_X2_isFound : (.code yX2_isFound cX2_isFound 1 (some .boolean) : Cond) ∈ ab_all := List.mem_filter.mpr ⟨List.mem_of_getElem? (i := 843) (by decide +kernel), rfl⟩
theorem ml_X9_128 : (.methodLink RX9 128 yJx4a65c_get_915e3 : Cond) ∈ ab_all := List.mem_filter.mpr ⟨List.mem_of_getElem? (i := 844) (by decide +kernel), rfl⟩
theorem mn_X9_146 : (.methodLinkNest RX9 146 yX2_layBest "ShuttleRow" : Cond) ∈ ab_nest := List.mem_filter.mpr ⟨List.mem_of_getElem? (i := 845) (by decide +kernel), rfl⟩
theorem im_X2_layBest : (.instanceMethod yX2_layBest : Cond) ∈ ab_all := List.mem_filter.mpr ⟨List.mem_of_getElem? (i := 847) (by decide +kernel), rfl⟩
theorem co_X2_layBest : (.code yX2_layBest cX2_layBest 3 none : Cond) ∈ ab_all := List.mem_filter.mpr ⟨List.mem_of_getElem? (i := 848) (by decide +kernel), rfl⟩
theorem mn_X9_153 : (.methodLinkNest RX9 153 yX7_copyFrom "ShuttleRow" : Cond) ∈ ab_nest := List.mem_filter.mpr ⟨List.mem_of_getElem? (i := 849) (by decide +kernel), rfl⟩
theorem im_X7_copyFrom : (.instanceMethod yX7_copyFrom : Cond) ∈ ab_all := List.mem_filter.mpr ⟨List.mem_of_getElem? (i := 851) (by decide +kernel), rfl⟩
theorem co_X7_copyFrom : (.code yX7_copyFrom cX7_copyFrom 3 none : Cond) ∈ ab_all := List.mem_filter.mpr ⟨List.mem_of_getElem? (i := 852) (by decide +kernel), rfl⟩
theorem ml_X7_30 : (.methodLink RX7 30 yX7_add : Cond) ∈ ab_all := List.mem_filter.mpr ⟨List.mem_of_getElem? (i := 853) (by decide +kernel), rfl⟩
theorem ml_X9_159 : (.methodLink RX9 159 yX9_makeDueStops : Cond) ∈ ab_all := List.mem_filter.mpr ⟨List.mem_of_getElem? (i := 854) (by decide +kernel), rfl⟩
theorem im_X9_makeDueStops : (.instanceMethod yX9_makeDueStops : Cond) ∈ ab_all := List.mem_filter.mpr ⟨List.mem_of_getElem? (i := 856) (by decide +kernel), rfl⟩
theorem co_X9_makeDueStops : (.code yX9_makeDueStops cX9_makeDueStops 5 (some .int) : Cond) ∈ ab_all := List.mem_filter.mpr ⟨List.mem_of_getElem? (i := 857) (by decide +kernel), rfl⟩
theorem mn_X9_229 : (.methodLinkNest RX9 229 yX7_stopAt "ShuttleRow" : Cond) ∈ ab_nest := List.mem_filter.mpr ⟨List.mem_of_getElem? (i := 858) (by decide +kernel), rfl⟩
theorem mn_X9_390 : (.methodLinkNest RX9 390 yX0_wayTo "ShuttleRow" : Cond) ∈ ab_nest := List.mem_filter.mpr ⟨List.mem_of_getElem? (i := 859) (by decide +kernel), rfl⟩
theorem mn_X9_190 : (.methodLinkNest RX9 190 yX7_removeStop "ShuttleRow" : Cond) ∈ ab_nest := List.mem_filter.mpr ⟨List.mem_of_getElem? (i := 860) (by decide +kernel), rfl⟩
theorem im_X7_removeStop : (.instanceMethod yX7_removeStop : Cond) ∈ ab_all := List.mem_filter.mpr ⟨List.mem_of_getElem? (i := 862) (by decide +kernel), rfl⟩
theorem co_X7_removeStop : (.code yX7_removeStop cX7_removeStop 4 none : Cond) ∈ ab_all := List.mem_filter.mpr ⟨List.mem_of_getElem? (i := 863) (by decide +kernel), rfl⟩
theorem ml_X7_27 : (.methodLink RX7 27 yX7_indexOf : Cond) ∈ ab_all := List.mem_filter.mpr ⟨List.mem_of_getElem? (i := 864) (by decide +kernel), rfl⟩
theorem ml_X9_394 : (.methodLink RX9 394 yX9_makeStop : Cond) ∈ ab_all := List.mem_filter.mpr ⟨List.mem_of_getElem? (i := 865) (by decide +kernel), rfl⟩
theorem im_X9_makeStop : (.instanceMethod yX9_makeStop : Cond) ∈ ab_all := List.mem_filter.mpr ⟨List.mem_of_getElem? (i := 867) (by decide +kernel), rfl⟩
theorem co_X9_makeStop : (.code yX9_makeStop cX9_makeStop 4 none : Cond) ∈ ab_all := List.mem_filter.mpr ⟨List.mem_of_getElem? (i := 868) (by decide +kernel), rfl⟩
theorem ml_X9_232 : (.methodLink RX9 232 yX9_requestOf : Cond) ∈ ab_all := List.mem_filter.mpr ⟨List.mem_of_getElem? (i := 869) (by decide +kernel), rfl⟩
theorem mn_X9_303 : (.methodLinkNest RX9 303 yX0_requestAt "ShuttleRow" : Cond) ∈ ab_nest := List.mem_filter.mpr ⟨List.mem_of_getElem? (i := 870) (by decide +kernel), rfl⟩
theorem ml_X9_235 : (.methodLink RX9 235 yX9_picksUp : Cond) ∈ ab_all := List.mem_filter.mpr ⟨List.mem_of_getElem? (i := 871) (by decide +kernel), rfl⟩
theorem mn_X9_397 : (.methodLinkNest RX9 397 yX4_write "ShuttleRow" : Cond) ∈ ab_nest := List.mem_filter.mpr ⟨List.mem_of_getElem? (i := 872) (by decide +kernel), rfl⟩
theorem im_X4_write : (.instanceMethod yX4_write : Cond) ∈ ab_all := List.mem_filter.mpr ⟨List.mem_of_getElem? (i := 874) (by decide +kernel), rfl⟩
theorem co_X4_write : (.code yX4_write cX4_write 5 none : Cond) ∈ ab_all := List.mem_filter.mpr ⟨List.mem_of_getElem? (i := 875) (by decide +kernel), rfl⟩
theorem ml_L_162 : (.methodLink RL 162 yL_quote : Cond) ∈ ab_all := List.mem_filter.mpr ⟨List.mem_of_getElem? (i := 876) (by decide +kernel), rfl⟩
theorem sc_L_quote : (.static yL_quote : Cond) ∈ ab_all := List.mem_filter.mpr ⟨List.mem_of_getElem? (i := 877) (by decide +kernel), rfl⟩
theorem co_L_quote : (.codeWith yL_quote cL_quote 8 (some .int) [(0, 16, 19, 13), (0, 16, 23, 28), (0, 16, 27, 33)] : Cond) ∈ ab_all := List.mem_filter.mpr ⟨List.mem_of_getElem? (i := 878) (by decide +kernel), rfl⟩
theorem cl_L_33 : (.classLink RL 33 "java/util/NoSuchElementException" : Cond) ∈ ab_all := List.mem_filter.mpr ⟨List.mem_of_getElem? (i := 879) (by decide +kernel), rfl⟩
theorem ml_L_30 : (.methodLink RL 30 yX9_quote : Cond) ∈ ab_all := List.mem_filter.mpr ⟨List.mem_of_getElem? (i := 880) (by decide +kernel), rfl⟩
theorem im_X9_quote : (.instanceMethod yX9_quote : Cond) ∈ ab_all := List.mem_filter.mpr ⟨List.mem_of_getElem? (i := 881) (by decide +kernel), rfl⟩
theorem se_X9_quote : (.selects RX9 yX9_quote yX9_quote : Cond) ∈ ab_all := List.mem_filter.mpr ⟨List.mem_of_getElem? (i := 882) (by decide +kernel), rfl⟩
theorem co_X9_quote : (.code yX9_quote cX9_quote 6 (some .int) : Cond) ∈ ab_all := List.mem_filter.mpr ⟨List.mem_of_getElem? (i := 883) (by decide +kernel), rfl⟩
theorem mn_X9_167 : (.methodLinkNest RX9 167 yX2_tryEarly "ShuttleRow" : Cond) ∈ ab_nest := List.mem_filter.mpr ⟨List.mem_of_getElem? (i := 884) (by decide +kernel), rfl⟩
theorem im_X2_tryEarly : (.instanceMethod yX2_tryEarly : Cond) ∈ ab_all := List.mem_filter.mpr ⟨List.mem_of_getElem? (i := 886) (by decide +kernel), rfl⟩
theorem co_X2_tryEarly : (.code yX2_tryEarly cX2_tryEarly 10 none : Cond) ∈ ab_all := List.mem_filter.mpr ⟨List.mem_of_getElem? (i := 887) (by decide +kernel), rfl⟩
theorem ml_X2_81 : (.methodLink RX2 81 yX2_isFound : Cond) ∈ ab_all := List.mem_filter.mpr ⟨List.mem_of_getElem? (i := 888) (by decide +kernel), rfl⟩
theorem mn_X2_86 : (.methodLinkNest RX2 86 yX8_follow "ShuttleRow" : Cond) ∈ ab_nest := List.mem_filter.mpr ⟨List.mem_of_getElem? (i := 889) (by decide +kernel), rfl⟩
theorem im_X8_follow : (.instanceMethod yX8_follow : Cond) ∈ ab_all := List.mem_filter.mpr ⟨List.mem_of_getElem? (i := 891) (by decide +kernel), rfl⟩
theorem co_X8_follow : (.code yX8_follow cX8_follow 7 (some .int) : Cond) ∈ ab_all := List.mem_filter.mpr ⟨List.mem_of_getElem? (i := 892) (by decide +kernel), rfl⟩
theorem mn_X8_45 : (.methodLinkNest RX8 45 yX9_distance "ShuttleRow" : Cond) ∈ ab_nest := List.mem_filter.mpr ⟨List.mem_of_getElem? (i := 893) (by decide +kernel), rfl⟩
theorem mn_X8_57 : (.methodLinkNest RX8 57 yX7_stopAt "ShuttleRow" : Cond) ∈ ab_nest := List.mem_filter.mpr ⟨List.mem_of_getElem? (i := 894) (by decide +kernel), rfl⟩
theorem ml_X8_61 : (.methodLink RX8 61 yX8_goTo : Cond) ∈ ab_all := List.mem_filter.mpr ⟨List.mem_of_getElem? (i := 895) (by decide +kernel), rfl⟩
theorem im_X8_goTo : (.instanceMethod yX8_goTo : Cond) ∈ ab_all := List.mem_filter.mpr ⟨List.mem_of_getElem? (i := 897) (by decide +kernel), rfl⟩
theorem co_X8_goTo : (.code yX8_goTo cX8_goTo 3 none : Cond) ∈ ab_all := List.mem_filter.mpr ⟨List.mem_of_getElem? (i := 898) (by decide +kernel), rfl⟩
theorem mn_X8_72 : (.methodLinkNest RX8 72 yX0_wayTo "ShuttleRow" : Cond) ∈ ab_nest := List.mem_filter.mpr ⟨List.mem_of_getElem? (i := 899) (by decide +kernel), rfl⟩
theorem mn_X8_78 : (.methodLinkNest RX8 78 yX0_xOf "ShuttleRow" : Cond) ∈ ab_nest := List.mem_filter.mpr ⟨List.mem_of_getElem? (i := 900) (by decide +kernel), rfl⟩
theorem mn_X8_81 : (.methodLinkNest RX8 81 yX0_yOf "ShuttleRow" : Cond) ∈ ab_nest := List.mem_filter.mpr ⟨List.mem_of_getElem? (i := 901) (by decide +kernel), rfl⟩
theorem ml_X8_68 : (.methodLink RX8 68 yX8_canMake : Cond) ∈ ab_all := List.mem_filter.mpr ⟨List.mem_of_getElem? (i := 902) (by decide +kernel), rfl⟩
theorem im_X8_canMake : (.instanceMethod yX8_canMake : Cond) ∈ ab_all := List.mem_filter.mpr ⟨List.mem_of_getElem? (i := 904) (by decide +kernel), rfl⟩
theorem co_X8_canMake : (.code yX8_canMake cX8_canMake 10 (some .boolean) : Cond) ∈ ab_all := List.mem_filter.mpr ⟨List.mem_of_getElem? (i := 905) (by decide +kernel), rfl⟩
theorem mn_X8_84 : (.methodLinkNest RX8 84 yX9_requestOf "ShuttleRow" : Cond) ∈ ab_nest := List.mem_filter.mpr ⟨List.mem_of_getElem? (i := 906) (by decide +kernel), rfl⟩
theorem mn_X8_87 : (.methodLinkNest RX8 87 yX0_requestAt "ShuttleRow" : Cond) ∈ ab_nest := List.mem_filter.mpr ⟨List.mem_of_getElem? (i := 907) (by decide +kernel), rfl⟩
theorem mn_X8_91 : (.methodLinkNest RX8 91 yX9_picksUp "ShuttleRow" : Cond) ∈ ab_nest := List.mem_filter.mpr ⟨List.mem_of_getElem? (i := 908) (by decide +kernel), rfl⟩
theorem mn_X8_104 : (.methodLinkNest RX8 104 yX9_pickupOf "ShuttleRow" : Cond) ∈ ab_nest := List.mem_filter.mpr ⟨List.mem_of_getElem? (i := 909) (by decide +kernel), rfl⟩
theorem mn_X8_107 : (.methodLinkNest RX8 107 yX7_indexOf "ShuttleRow" : Cond) ∈ ab_nest := List.mem_filter.mpr ⟨List.mem_of_getElem? (i := 910) (by decide +kernel), rfl⟩
theorem ml_X9_170 : (.methodLink RX9 170 yX9_checkFound : Cond) ∈ ab_all := List.mem_filter.mpr ⟨List.mem_of_getElem? (i := 911) (by decide +kernel), rfl⟩
theorem im_X9_checkFound : (.instanceMethod yX9_checkFound : Cond) ∈ ab_all := List.mem_filter.mpr ⟨List.mem_of_getElem? (i := 913) (by decide +kernel), rfl⟩
theorem co_X9_checkFound : (.code yX9_checkFound cX9_checkFound 1 none : Cond) ∈ ab_all := List.mem_filter.mpr ⟨List.mem_of_getElem? (i := 914) (by decide +kernel), rfl⟩
theorem cl_X9_279 : (.classLink RX9 279 "java/util/NoSuchElementException" : Cond) ∈ ab_all := List.mem_filter.mpr ⟨List.mem_of_getElem? (i := 915) (by decide +kernel), rfl⟩
theorem ca_917 : (.castable "java/util/NoSuchElementException" "java/util/NoSuchElementException" : Cond) ∈ ab_nest := List.mem_filter.mpr ⟨List.mem_of_getElem? (i := 917) (by decide +kernel), rfl⟩
theorem ml_X9_283 : (.methodLink RX9 283 ⟨"java/util/NoSuchElementException", "<init>", "(Ljava/lang/String;)V"⟩ : Cond) ∈ ab_all := List.mem_filter.mpr ⟨List.mem_of_getElem? (i := 925) (by decide +kernel), rfl⟩
theorem sm_930 : (.superclass "java/util/NoSuchElementException" "java/lang/RuntimeException" : Cond) ∈ ab_all := List.mem_filter.mpr ⟨List.mem_of_getElem? (i := 930) (by decide +kernel), rfl⟩
theorem ml_L_165 : (.methodLink RL 165 yL_quoteByTrying : Cond) ∈ ab_all := List.mem_filter.mpr ⟨List.mem_of_getElem? (i := 931) (by decide +kernel), rfl⟩
theorem sc_L_quoteByTrying : (.static yL_quoteByTrying : Cond) ∈ ab_all := List.mem_filter.mpr ⟨List.mem_of_getElem? (i := 932) (by decide +kernel), rfl⟩
theorem co_L_quoteByTrying : (.codeWith yL_quoteByTrying cL_quoteByTrying 8 (some .int) [(0, 16, 19, 13), (0, 16, 23, 28), (0, 16, 27, 33)] : Cond) ∈ ab_all := List.mem_filter.mpr ⟨List.mem_of_getElem? (i := 933) (by decide +kernel), rfl⟩
theorem ml_L_35 : (.methodLink RL 35 yX9_quoteByTrying : Cond) ∈ ab_all := List.mem_filter.mpr ⟨List.mem_of_getElem? (i := 934) (by decide +kernel), rfl⟩
theorem im_X9_quoteByTrying : (.instanceMethod yX9_quoteByTrying : Cond) ∈ ab_all := List.mem_filter.mpr ⟨List.mem_of_getElem? (i := 935) (by decide +kernel), rfl⟩
theorem se_X9_quoteByTrying : (.selects RX9 yX9_quoteByTrying yX9_quoteByTrying : Cond) ∈ ab_all := List.mem_filter.mpr ⟨List.mem_of_getElem? (i := 936) (by decide +kernel), rfl⟩
theorem co_X9_quoteByTrying : (.code yX9_quoteByTrying cX9_quoteByTrying 6 (some .int) : Cond) ∈ ab_all := List.mem_filter.mpr ⟨List.mem_of_getElem? (i := 937) (by decide +kernel), rfl⟩
theorem ml_L_168 : (.methodLink RL 168 yL_quotedBus : Cond) ∈ ab_all := List.mem_filter.mpr ⟨List.mem_of_getElem? (i := 938) (by decide +kernel), rfl⟩
theorem sc_L_quotedBus : (.static yL_quotedBus : Cond) ∈ ab_all := List.mem_filter.mpr ⟨List.mem_of_getElem? (i := 939) (by decide +kernel), rfl⟩
theorem co_L_quotedBus : (.codeWith yL_quotedBus cL_quotedBus 8 (some .int) [(0, 16, 19, 13), (0, 16, 23, 28), (0, 16, 27, 33)] : Cond) ∈ ab_all := List.mem_filter.mpr ⟨List.mem_of_getElem? (i := 940) (by decide +kernel), rfl⟩
theorem ml_L_38 : (.methodLink RL 38 yX9_quotedBus : Cond) ∈ ab_all := List.mem_filter.mpr ⟨List.mem_of_getElem? (i := 941) (by decide +kernel), rfl⟩
theorem im_X9_quotedBus : (.instanceMethod yX9_quotedBus : Cond) ∈ ab_all := List.mem_filter.mpr ⟨List.mem_of_getElem? (i := 942) (by decide +kernel), rfl⟩
theorem se_X9_quotedBus : (.selects RX9 yX9_quotedBus yX9_quotedBus : Cond) ∈ ab_all := List.mem_filter.mpr ⟨List.mem_of_getElem? (i := 943) (by decide +kernel), rfl⟩
theorem co_X9_quotedBus : (.code yX9_quotedBus cX9_quotedBus 6 (some .int) : Cond) ∈ ab_all := List.mem_filter.mpr ⟨List.mem_of_getElem? (i := 944) (by decide +kernel), rfl⟩
theorem ml_L_171 : (.methodLink RL 171 yL_cancel : Cond) ∈ ab_all := List.mem_filter.mpr ⟨List.mem_of_getElem? (i := 945) (by decide +kernel), rfl⟩
theorem sc_L_cancel : (.static yL_cancel : Cond) ∈ ab_all := List.mem_filter.mpr ⟨List.mem_of_getElem? (i := 946) (by decide +kernel), rfl⟩
theorem co_L_cancel : (.codeWith yL_cancel cL_cancel 4 (some .int) [(0, 9, 12, 44), (0, 9, 15, 22)] : Cond) ∈ ab_all := List.mem_filter.mpr ⟨List.mem_of_getElem? (i := 947) (by decide +kernel), rfl⟩
theorem cl_L_44 : (.classLink RL 44 "java/lang/IndexOutOfBoundsException" : Cond) ∈ ab_all := List.mem_filter.mpr ⟨List.mem_of_getElem? (i := 948) (by decide +kernel), rfl⟩
theorem ml_L_41 : (.methodLink RL 41 yX9_cancel : Cond) ∈ ab_all := List.mem_filter.mpr ⟨List.mem_of_getElem? (i := 949) (by decide +kernel), rfl⟩
theorem im_X9_cancel : (.instanceMethod yX9_cancel : Cond) ∈ ab_all := List.mem_filter.mpr ⟨List.mem_of_getElem? (i := 950) (by decide +kernel), rfl⟩
theorem se_X9_cancel : (.selects RX9 yX9_cancel yX9_cancel : Cond) ∈ ab_all := List.mem_filter.mpr ⟨List.mem_of_getElem? (i := 951) (by decide +kernel), rfl⟩
theorem co_X9_cancel : (.code yX9_cancel cX9_cancel 4 (some .int) : Cond) ∈ ab_all := List.mem_filter.mpr ⟨List.mem_of_getElem? (i := 952) (by decide +kernel), rfl⟩
theorem ml_X9_176 : (.methodLink RX9 176 yX9_keptRequest : Cond) ∈ ab_all := List.mem_filter.mpr ⟨List.mem_of_getElem? (i := 953) (by decide +kernel), rfl⟩
theorem im_X9_keptRequest : (.instanceMethod yX9_keptRequest : Cond) ∈ ab_all := List.mem_filter.mpr ⟨List.mem_of_getElem? (i := 955) (by decide +kernel), rfl⟩
theorem co_X9_keptRequest : (.code yX9_keptRequest cX9_keptRequest 2 (some (.object "ShuttleRow$Request")) : Cond) ∈ ab_all := List.mem_filter.mpr ⟨List.mem_of_getElem? (i := 956) (by decide +kernel), rfl⟩
theorem cl_X9_316 : (.classLink RX9 316 "java/lang/IndexOutOfBoundsException" : Cond) ∈ ab_all := List.mem_filter.mpr ⟨List.mem_of_getElem? (i := 957) (by decide +kernel), rfl⟩
theorem ca_959 : (.castable "java/lang/IndexOutOfBoundsException" "java/lang/IndexOutOfBoundsException" : Cond) ∈ ab_nest := List.mem_filter.mpr ⟨List.mem_of_getElem? (i := 959) (by decide +kernel), rfl⟩
theorem ml_X9_318 : (.methodLink RX9 318 ⟨"java/lang/IndexOutOfBoundsException", "<init>", "(Ljava/lang/String;)V"⟩ : Cond) ∈ ab_all := List.mem_filter.mpr ⟨List.mem_of_getElem? (i := 966) (by decide +kernel), rfl⟩
theorem sm_971 : (.superclass "java/lang/IndexOutOfBoundsException" "java/lang/RuntimeException" : Cond) ∈ ab_all := List.mem_filter.mpr ⟨List.mem_of_getElem? (i := 971) (by decide +kernel), rfl⟩
theorem ml_X9_182 : (.methodLink RX9 182 yX9_keptBus : Cond) ∈ ab_all := List.mem_filter.mpr ⟨List.mem_of_getElem? (i := 973) (by decide +kernel), rfl⟩
theorem im_X9_keptBus : (.instanceMethod yX9_keptBus : Cond) ∈ ab_all := List.mem_filter.mpr ⟨List.mem_of_getElem? (i := 975) (by decide +kernel), rfl⟩
theorem co_X9_keptBus : (.code yX9_keptBus cX9_keptBus 2 (some (.object "ShuttleRow$Bus")) : Cond) ∈ ab_all := List.mem_filter.mpr ⟨List.mem_of_getElem? (i := 976) (by decide +kernel), rfl⟩
theorem ml_X9_186 : (.methodLink RX9 186 yX9_pickupOf : Cond) ∈ ab_all := List.mem_filter.mpr ⟨List.mem_of_getElem? (i := 977) (by decide +kernel), rfl⟩
theorem ml_X9_194 : (.methodLink RX9 194 yX9_dropOf : Cond) ∈ ab_all := List.mem_filter.mpr ⟨List.mem_of_getElem? (i := 978) (by decide +kernel), rfl⟩
theorem ml_L_174 : (.methodLink RL 174 yL_status : Cond) ∈ ab_all := List.mem_filter.mpr ⟨List.mem_of_getElem? (i := 979) (by decide +kernel), rfl⟩
theorem sc_L_status : (.static yL_status : Cond) ∈ ab_all := List.mem_filter.mpr ⟨List.mem_of_getElem? (i := 980) (by decide +kernel), rfl⟩
theorem co_L_status : (.codeWith yL_status cL_status 4 (some .int) [(0, 9, 12, 44)] : Cond) ∈ ab_all := List.mem_filter.mpr ⟨List.mem_of_getElem? (i := 981) (by decide +kernel), rfl⟩
theorem ml_L_46 : (.methodLink RL 46 yX9_status : Cond) ∈ ab_all := List.mem_filter.mpr ⟨List.mem_of_getElem? (i := 982) (by decide +kernel), rfl⟩
theorem im_X9_status : (.instanceMethod yX9_status : Cond) ∈ ab_all := List.mem_filter.mpr ⟨List.mem_of_getElem? (i := 983) (by decide +kernel), rfl⟩
theorem se_X9_status : (.selects RX9 yX9_status yX9_status : Cond) ∈ ab_all := List.mem_filter.mpr ⟨List.mem_of_getElem? (i := 984) (by decide +kernel), rfl⟩
theorem co_X9_status : (.code yX9_status cX9_status 2 (some .char) : Cond) ∈ ab_all := List.mem_filter.mpr ⟨List.mem_of_getElem? (i := 985) (by decide +kernel), rfl⟩
theorem ml_L_177 : (.methodLink RL 177 yL_reason : Cond) ∈ ab_all := List.mem_filter.mpr ⟨List.mem_of_getElem? (i := 986) (by decide +kernel), rfl⟩
theorem sc_L_reason : (.static yL_reason : Cond) ∈ ab_all := List.mem_filter.mpr ⟨List.mem_of_getElem? (i := 987) (by decide +kernel), rfl⟩
theorem co_L_reason : (.codeWith yL_reason cL_reason 4 (some .int) [(0, 9, 12, 44), (0, 9, 15, 22)] : Cond) ∈ ab_all := List.mem_filter.mpr ⟨List.mem_of_getElem? (i := 988) (by decide +kernel), rfl⟩
theorem ml_L_50 : (.methodLink RL 50 yX9_reason : Cond) ∈ ab_all := List.mem_filter.mpr ⟨List.mem_of_getElem? (i := 989) (by decide +kernel), rfl⟩
theorem im_X9_reason : (.instanceMethod yX9_reason : Cond) ∈ ab_all := List.mem_filter.mpr ⟨List.mem_of_getElem? (i := 990) (by decide +kernel), rfl⟩
theorem se_X9_reason : (.selects RX9 yX9_reason yX9_reason : Cond) ∈ ab_all := List.mem_filter.mpr ⟨List.mem_of_getElem? (i := 991) (by decide +kernel), rfl⟩
theorem co_X9_reason : (.code yX9_reason cX9_reason 3 (some .char) : Cond) ∈ ab_all := List.mem_filter.mpr ⟨List.mem_of_getElem? (i := 992) (by decide +kernel), rfl⟩
theorem ml_X9_199 : (.methodLink RX9 199 yX9_signOf : Cond) ∈ ab_all := List.mem_filter.mpr ⟨List.mem_of_getElem? (i := 994) (by decide +kernel), rfl⟩
theorem sc_X9_signOf : (.static yX9_signOf : Cond) ∈ ab_all := List.mem_filter.mpr ⟨List.mem_of_getElem? (i := 995) (by decide +kernel), rfl⟩
theorem co_X9_signOf : (.code yX9_signOf cX9_signOf 1 (some .char) : Cond) ∈ ab_all := List.mem_filter.mpr ⟨List.mem_of_getElem? (i := 996) (by decide +kernel), rfl⟩
theorem ml_L_180 : (.methodLink RL 180 yL_busOf : Cond) ∈ ab_all := List.mem_filter.mpr ⟨List.mem_of_getElem? (i := 997) (by decide +kernel), rfl⟩
theorem sc_L_busOf : (.static yL_busOf : Cond) ∈ ab_all := List.mem_filter.mpr ⟨List.mem_of_getElem? (i := 998) (by decide +kernel), rfl⟩
theorem co_L_busOf : (.codeWith yL_busOf cL_busOf 4 (some .int) [(0, 9, 12, 44), (0, 9, 15, 22)] : Cond) ∈ ab_all := List.mem_filter.mpr ⟨List.mem_of_getElem? (i := 999) (by decide +kernel), rfl⟩
theorem ml_L_53 : (.methodLink RL 53 yX9_busOf : Cond) ∈ ab_all := List.mem_filter.mpr ⟨List.mem_of_getElem? (i := 1000) (by decide +kernel), rfl⟩
theorem im_X9_busOf : (.instanceMethod yX9_busOf : Cond) ∈ ab_all := List.mem_filter.mpr ⟨List.mem_of_getElem? (i := 1001) (by decide +kernel), rfl⟩
theorem se_X9_busOf : (.selects RX9 yX9_busOf yX9_busOf : Cond) ∈ ab_all := List.mem_filter.mpr ⟨List.mem_of_getElem? (i := 1002) (by decide +kernel), rfl⟩
theorem co_X9_busOf : (.code yX9_busOf cX9_busOf 3 (some .int) : Cond) ∈ ab_all := List.mem_filter.mpr ⟨List.mem_of_getElem? (i := 1003) (by decide +kernel), rfl⟩
theorem ml_L_183 : (.methodLink RL 183 yL_latestPickup : Cond) ∈ ab_all := List.mem_filter.mpr ⟨List.mem_of_getElem? (i := 1005) (by decide +kernel), rfl⟩
theorem sc_L_latestPickup : (.static yL_latestPickup : Cond) ∈ ab_all := List.mem_filter.mpr ⟨List.mem_of_getElem? (i := 1006) (by decide +kernel), rfl⟩
theorem co_L_latestPickup : (.codeWith yL_latestPickup cL_latestPickup 4 (some .int) [(0, 9, 12, 44)] : Cond) ∈ ab_all := List.mem_filter.mpr ⟨List.mem_of_getElem? (i := 1007) (by decide +kernel), rfl⟩
theorem ml_L_56 : (.methodLink RL 56 yX9_latestPickup : Cond) ∈ ab_all := List.mem_filter.mpr ⟨List.mem_of_getElem? (i := 1008) (by decide +kernel), rfl⟩
theorem im_X9_latestPickup : (.instanceMethod yX9_latestPickup : Cond) ∈ ab_all := List.mem_filter.mpr ⟨List.mem_of_getElem? (i := 1009) (by decide +kernel), rfl⟩
theorem se_X9_latestPickup : (.selects RX9 yX9_latestPickup yX9_latestPickup : Cond) ∈ ab_all := List.mem_filter.mpr ⟨List.mem_of_getElem? (i := 1010) (by decide +kernel), rfl⟩
theorem co_X9_latestPickup : (.code yX9_latestPickup cX9_latestPickup 2 (some .int) : Cond) ∈ ab_all := List.mem_filter.mpr ⟨List.mem_of_getElem? (i := 1011) (by decide +kernel), rfl⟩
theorem ml_L_186 : (.methodLink RL 186 yL_longestRide : Cond) ∈ ab_all := List.mem_filter.mpr ⟨List.mem_of_getElem? (i := 1012) (by decide +kernel), rfl⟩
theorem sc_L_longestRide : (.static yL_longestRide : Cond) ∈ ab_all := List.mem_filter.mpr ⟨List.mem_of_getElem? (i := 1013) (by decide +kernel), rfl⟩
theorem co_L_longestRide : (.codeWith yL_longestRide cL_longestRide 4 (some .int) [(0, 9, 12, 44)] : Cond) ∈ ab_all := List.mem_filter.mpr ⟨List.mem_of_getElem? (i := 1014) (by decide +kernel), rfl⟩
theorem ml_L_59 : (.methodLink RL 59 yX9_longestRide : Cond) ∈ ab_all := List.mem_filter.mpr ⟨List.mem_of_getElem? (i := 1015) (by decide +kernel), rfl⟩
theorem im_X9_longestRide : (.instanceMethod yX9_longestRide : Cond) ∈ ab_all := List.mem_filter.mpr ⟨List.mem_of_getElem? (i := 1016) (by decide +kernel), rfl⟩
theorem se_X9_longestRide : (.selects RX9 yX9_longestRide yX9_longestRide : Cond) ∈ ab_all := List.mem_filter.mpr ⟨List.mem_of_getElem? (i := 1017) (by decide +kernel), rfl⟩
theorem co_X9_longestRide : (.code yX9_longestRide cX9_longestRide 2 (some .int) : Cond) ∈ ab_all := List.mem_filter.mpr ⟨List.mem_of_getElem? (i := 1018) (by decide +kernel), rfl⟩
theorem ml_L_189 : (.methodLink RL 189 yL_pickupTime : Cond) ∈ ab_all := List.mem_filter.mpr ⟨List.mem_of_getElem? (i := 1019) (by decide +kernel), rfl⟩
theorem sc_L_pickupTime : (.static yL_pickupTime : Cond) ∈ ab_all := List.mem_filter.mpr ⟨List.mem_of_getElem? (i := 1020) (by decide +kernel), rfl⟩
theorem co_L_pickupTime : (.codeWith yL_pickupTime cL_pickupTime 4 (some .int) [(0, 9, 12, 44), (0, 9, 15, 22)] : Cond) ∈ ab_all := List.mem_filter.mpr ⟨List.mem_of_getElem? (i := 1021) (by decide +kernel), rfl⟩
theorem ml_L_62 : (.methodLink RL 62 yX9_pickupTime : Cond) ∈ ab_all := List.mem_filter.mpr ⟨List.mem_of_getElem? (i := 1022) (by decide +kernel), rfl⟩
theorem im_X9_pickupTime : (.instanceMethod yX9_pickupTime : Cond) ∈ ab_all := List.mem_filter.mpr ⟨List.mem_of_getElem? (i := 1023) (by decide +kernel), rfl⟩
theorem se_X9_pickupTime : (.selects RX9 yX9_pickupTime yX9_pickupTime : Cond) ∈ ab_all := List.mem_filter.mpr ⟨List.mem_of_getElem? (i := 1024) (by decide +kernel), rfl⟩
theorem co_X9_pickupTime : (.code yX9_pickupTime cX9_pickupTime 3 (some .int) : Cond) ∈ ab_all := List.mem_filter.mpr ⟨List.mem_of_getElem? (i := 1025) (by decide +kernel), rfl⟩
theorem ml_X9_211 : (.methodLink RX9 211 yX9_servedRequest : Cond) ∈ ab_all := List.mem_filter.mpr ⟨List.mem_of_getElem? (i := 1026) (by decide +kernel), rfl⟩
theorem im_X9_servedRequest : (.instanceMethod yX9_servedRequest : Cond) ∈ ab_all := List.mem_filter.mpr ⟨List.mem_of_getElem? (i := 1028) (by decide +kernel), rfl⟩
theorem co_X9_servedRequest : (.code yX9_servedRequest cX9_servedRequest 3 (some (.object "ShuttleRow$Request")) : Cond) ∈ ab_all := List.mem_filter.mpr ⟨List.mem_of_getElem? (i := 1029) (by decide +kernel), rfl⟩
theorem ml_X9_214 : (.methodLink RX9 214 yX9_plannedTime : Cond) ∈ ab_all := List.mem_filter.mpr ⟨List.mem_of_getElem? (i := 1031) (by decide +kernel), rfl⟩
theorem im_X9_plannedTime : (.instanceMethod yX9_plannedTime : Cond) ∈ ab_all := List.mem_filter.mpr ⟨List.mem_of_getElem? (i := 1033) (by decide +kernel), rfl⟩
theorem co_X9_plannedTime : (.code yX9_plannedTime cX9_plannedTime 3 (some .int) : Cond) ∈ ab_all := List.mem_filter.mpr ⟨List.mem_of_getElem? (i := 1034) (by decide +kernel), rfl⟩
theorem mn_X9_360 : (.methodLinkNest RX9 360 yX3_clock "ShuttleRow" : Cond) ∈ ab_nest := List.mem_filter.mpr ⟨List.mem_of_getElem? (i := 1035) (by decide +kernel), rfl⟩
theorem mn_X9_364 : (.methodLinkNest RX9 364 yX7_indexOf "ShuttleRow" : Cond) ∈ ab_nest := List.mem_filter.mpr ⟨List.mem_of_getElem? (i := 1036) (by decide +kernel), rfl⟩
theorem mn_X9_367 : (.methodLinkNest RX9 367 yX3_timeAt "ShuttleRow" : Cond) ∈ ab_nest := List.mem_filter.mpr ⟨List.mem_of_getElem? (i := 1037) (by decide +kernel), rfl⟩
theorem ml_L_192 : (.methodLink RL 192 yL_dropTime : Cond) ∈ ab_all := List.mem_filter.mpr ⟨List.mem_of_getElem? (i := 1038) (by decide +kernel), rfl⟩
theorem sc_L_dropTime : (.static yL_dropTime : Cond) ∈ ab_all := List.mem_filter.mpr ⟨List.mem_of_getElem? (i := 1039) (by decide +kernel), rfl⟩
theorem co_L_dropTime : (.codeWith yL_dropTime cL_dropTime 4 (some .int) [(0, 9, 12, 44), (0, 9, 15, 22)] : Cond) ∈ ab_all := List.mem_filter.mpr ⟨List.mem_of_getElem? (i := 1040) (by decide +kernel), rfl⟩
theorem ml_L_65 : (.methodLink RL 65 yX9_dropTime : Cond) ∈ ab_all := List.mem_filter.mpr ⟨List.mem_of_getElem? (i := 1041) (by decide +kernel), rfl⟩
theorem im_X9_dropTime : (.instanceMethod yX9_dropTime : Cond) ∈ ab_all := List.mem_filter.mpr ⟨List.mem_of_getElem? (i := 1042) (by decide +kernel), rfl⟩
theorem se_X9_dropTime : (.selects RX9 yX9_dropTime yX9_dropTime : Cond) ∈ ab_all := List.mem_filter.mpr ⟨List.mem_of_getElem? (i := 1043) (by decide +kernel), rfl⟩
theorem co_X9_dropTime : (.code yX9_dropTime cX9_dropTime 3 (some .int) : Cond) ∈ ab_all := List.mem_filter.mpr ⟨List.mem_of_getElem? (i := 1044) (by decide +kernel), rfl⟩
theorem ml_L_199 : (.methodLink RL 199 yL_stops : Cond) ∈ ab_all := List.mem_filter.mpr ⟨List.mem_of_getElem? (i := 1045) (by decide +kernel), rfl⟩
theorem sc_L_stops : (.static yL_stops : Cond) ∈ ab_all := List.mem_filter.mpr ⟨List.mem_of_getElem? (i := 1046) (by decide +kernel), rfl⟩
theorem co_L_stops : (.codeWith yL_stops cL_stops 4 (some .int) [(0, 9, 12, 44)] : Cond) ∈ ab_all := List.mem_filter.mpr ⟨List.mem_of_getElem? (i := 1047) (by decide +kernel), rfl⟩
theorem ml_L_68 : (.methodLink RL 68 yX9_stops : Cond) ∈ ab_all := List.mem_filter.mpr ⟨List.mem_of_getElem? (i := 1048) (by decide +kernel), rfl⟩
theorem im_X9_stops : (.instanceMethod yX9_stops : Cond) ∈ ab_all := List.mem_filter.mpr ⟨List.mem_of_getElem? (i := 1049) (by decide +kernel), rfl⟩
theorem se_X9_stops : (.selects RX9 yX9_stops yX9_stops : Cond) ∈ ab_all := List.mem_filter.mpr ⟨List.mem_of_getElem? (i := 1050) (by decide +kernel), rfl⟩
theorem co_X9_stops : (.code yX9_stops cX9_stops 2 (some .int) : Cond) ∈ ab_all := List.mem_filter.mpr ⟨List.mem_of_getElem? (i := 1051) (by decide +kernel), rfl⟩
theorem ml_L_202 : (.methodLink RL 202 yL_stopRequest : Cond) ∈ ab_all := List.mem_filter.mpr ⟨List.mem_of_getElem? (i := 1052) (by decide +kernel), rfl⟩
theorem sc_L_stopRequest : (.static yL_stopRequest : Cond) ∈ ab_all := List.mem_filter.mpr ⟨List.mem_of_getElem? (i := 1053) (by decide +kernel), rfl⟩
theorem co_L_stopRequest : (.codeWith yL_stopRequest cL_stopRequest 5 (some .int) [(0, 10, 13, 44), (0, 10, 17, 33)] : Cond) ∈ ab_all := List.mem_filter.mpr ⟨List.mem_of_getElem? (i := 1054) (by decide +kernel), rfl⟩
theorem ml_L_71 : (.methodLink RL 71 yX9_stopRequest : Cond) ∈ ab_all := List.mem_filter.mpr ⟨List.mem_of_getElem? (i := 1055) (by decide +kernel), rfl⟩
theorem im_X9_stopRequest : (.instanceMethod yX9_stopRequest : Cond) ∈ ab_all := List.mem_filter.mpr ⟨List.mem_of_getElem? (i := 1056) (by decide +kernel), rfl⟩
theorem se_X9_stopRequest : (.selects RX9 yX9_stopRequest yX9_stopRequest : Cond) ∈ ab_all := List.mem_filter.mpr ⟨List.mem_of_getElem? (i := 1057) (by decide +kernel), rfl⟩
theorem co_X9_stopRequest : (.code yX9_stopRequest cX9_stopRequest 4 (some .int) : Cond) ∈ ab_all := List.mem_filter.mpr ⟨List.mem_of_getElem? (i := 1058) (by decide +kernel), rfl⟩
theorem ml_X9_226 : (.methodLink RX9 226 yX9_checkStop : Cond) ∈ ab_all := List.mem_filter.mpr ⟨List.mem_of_getElem? (i := 1059) (by decide +kernel), rfl⟩
theorem im_X9_checkStop : (.instanceMethod yX9_checkStop : Cond) ∈ ab_all := List.mem_filter.mpr ⟨List.mem_of_getElem? (i := 1061) (by decide +kernel), rfl⟩
theorem co_X9_checkStop : (.code yX9_checkStop cX9_checkStop 3 none : Cond) ∈ ab_all := List.mem_filter.mpr ⟨List.mem_of_getElem? (i := 1062) (by decide +kernel), rfl⟩
theorem ml_L_206 : (.methodLink RL 206 yL_isPickup : Cond) ∈ ab_all := List.mem_filter.mpr ⟨List.mem_of_getElem? (i := 1064) (by decide +kernel), rfl⟩
theorem sc_L_isPickup : (.static yL_isPickup : Cond) ∈ ab_all := List.mem_filter.mpr ⟨List.mem_of_getElem? (i := 1065) (by decide +kernel), rfl⟩
theorem co_L_isPickup : (.codeWith yL_isPickup cL_isPickup 5 (some .int) [(0, 17, 20, 44), (0, 17, 24, 33)] : Cond) ∈ ab_all := List.mem_filter.mpr ⟨List.mem_of_getElem? (i := 1066) (by decide +kernel), rfl⟩
theorem ml_L_75 : (.methodLink RL 75 yX9_isPickup : Cond) ∈ ab_all := List.mem_filter.mpr ⟨List.mem_of_getElem? (i := 1067) (by decide +kernel), rfl⟩
theorem im_X9_isPickup : (.instanceMethod yX9_isPickup : Cond) ∈ ab_all := List.mem_filter.mpr ⟨List.mem_of_getElem? (i := 1068) (by decide +kernel), rfl⟩
theorem se_X9_isPickup : (.selects RX9 yX9_isPickup yX9_isPickup : Cond) ∈ ab_all := List.mem_filter.mpr ⟨List.mem_of_getElem? (i := 1069) (by decide +kernel), rfl⟩
theorem co_X9_isPickup : (.code yX9_isPickup cX9_isPickup 4 (some .boolean) : Cond) ∈ ab_all := List.mem_filter.mpr ⟨List.mem_of_getElem? (i := 1070) (by decide +kernel), rfl⟩
theorem ml_L_209 : (.methodLink RL 209 yL_stopTime : Cond) ∈ ab_all := List.mem_filter.mpr ⟨List.mem_of_getElem? (i := 1071) (by decide +kernel), rfl⟩
theorem sc_L_stopTime : (.static yL_stopTime : Cond) ∈ ab_all := List.mem_filter.mpr ⟨List.mem_of_getElem? (i := 1072) (by decide +kernel), rfl⟩
theorem co_L_stopTime : (.codeWith yL_stopTime cL_stopTime 5 (some .int) [(0, 10, 13, 44), (0, 10, 17, 33)] : Cond) ∈ ab_all := List.mem_filter.mpr ⟨List.mem_of_getElem? (i := 1073) (by decide +kernel), rfl⟩
theorem ml_L_79 : (.methodLink RL 79 yX9_stopTime : Cond) ∈ ab_all := List.mem_filter.mpr ⟨List.mem_of_getElem? (i := 1074) (by decide +kernel), rfl⟩
theorem im_X9_stopTime : (.instanceMethod yX9_stopTime : Cond) ∈ ab_all := List.mem_filter.mpr ⟨List.mem_of_getElem? (i := 1075) (by decide +kernel), rfl⟩
theorem se_X9_stopTime : (.selects RX9 yX9_stopTime yX9_stopTime : Cond) ∈ ab_all := List.mem_filter.mpr ⟨List.mem_of_getElem? (i := 1076) (by decide +kernel), rfl⟩
theorem co_X9_stopTime : (.code yX9_stopTime cX9_stopTime 4 (some .int) : Cond) ∈ ab_all := List.mem_filter.mpr ⟨List.mem_of_getElem? (i := 1077) (by decide +kernel), rfl⟩
theorem ml_L_212 : (.methodLink RL 212 yL_length : Cond) ∈ ab_all := List.mem_filter.mpr ⟨List.mem_of_getElem? (i := 1078) (by decide +kernel), rfl⟩
theorem sc_L_length : (.static yL_length : Cond) ∈ ab_all := List.mem_filter.mpr ⟨List.mem_of_getElem? (i := 1079) (by decide +kernel), rfl⟩
theorem co_L_length : (.codeWith yL_length cL_length 4 (some .int) [(0, 9, 12, 44)] : Cond) ∈ ab_all := List.mem_filter.mpr ⟨List.mem_of_getElem? (i := 1080) (by decide +kernel), rfl⟩
theorem ml_L_82 : (.methodLink RL 82 yX9_length : Cond) ∈ ab_all := List.mem_filter.mpr ⟨List.mem_of_getElem? (i := 1081) (by decide +kernel), rfl⟩
theorem im_X9_length : (.instanceMethod yX9_length : Cond) ∈ ab_all := List.mem_filter.mpr ⟨List.mem_of_getElem? (i := 1082) (by decide +kernel), rfl⟩
theorem se_X9_length : (.selects RX9 yX9_length yX9_length : Cond) ∈ ab_all := List.mem_filter.mpr ⟨List.mem_of_getElem? (i := 1083) (by decide +kernel), rfl⟩
theorem co_X9_length : (.code yX9_length cX9_length 3 (some .int) : Cond) ∈ ab_all := List.mem_filter.mpr ⟨List.mem_of_getElem? (i := 1084) (by decide +kernel), rfl⟩
theorem mn_X9_239 : (.methodLinkNest RX9 239 yX3_lengthOf "ShuttleRow" : Cond) ∈ ab_nest := List.mem_filter.mpr ⟨List.mem_of_getElem? (i := 1085) (by decide +kernel), rfl⟩
theorem ml_L_215 : (.methodLink RL 215 yL_bestLength : Cond) ∈ ab_all := List.mem_filter.mpr ⟨List.mem_of_getElem? (i := 1086) (by decide +kernel), rfl⟩
theorem sc_L_bestLength : (.static yL_bestLength : Cond) ∈ ab_all := List.mem_filter.mpr ⟨List.mem_of_getElem? (i := 1087) (by decide +kernel), rfl⟩
theorem co_L_bestLength : (.codeWith yL_bestLength cL_bestLength 4 (some .int) [(0, 9, 12, 44)] : Cond) ∈ ab_all := List.mem_filter.mpr ⟨List.mem_of_getElem? (i := 1088) (by decide +kernel), rfl⟩
theorem ml_L_85 : (.methodLink RL 85 yX9_bestLength : Cond) ∈ ab_all := List.mem_filter.mpr ⟨List.mem_of_getElem? (i := 1089) (by decide +kernel), rfl⟩
theorem im_X9_bestLength : (.instanceMethod yX9_bestLength : Cond) ∈ ab_all := List.mem_filter.mpr ⟨List.mem_of_getElem? (i := 1090) (by decide +kernel), rfl⟩
theorem se_X9_bestLength : (.selects RX9 yX9_bestLength yX9_bestLength : Cond) ∈ ab_all := List.mem_filter.mpr ⟨List.mem_of_getElem? (i := 1091) (by decide +kernel), rfl⟩
theorem co_X9_bestLength : (.code yX9_bestLength cX9_bestLength 3 (some .int) : Cond) ∈ ab_all := List.mem_filter.mpr ⟨List.mem_of_getElem? (i := 1092) (by decide +kernel), rfl⟩
theorem mn_X9_243 : (.methodLinkNest RX9 243 yX5_tryEarly "ShuttleRow" : Cond) ∈ ab_nest := List.mem_filter.mpr ⟨List.mem_of_getElem? (i := 1093) (by decide +kernel), rfl⟩
theorem im_X5_tryEarly : (.instanceMethod yX5_tryEarly : Cond) ∈ ab_all := List.mem_filter.mpr ⟨List.mem_of_getElem? (i := 1095) (by decide +kernel), rfl⟩
theorem co_X5_tryEarly : (.code yX5_tryEarly cX5_tryEarly 5 none : Cond) ∈ ab_all := List.mem_filter.mpr ⟨List.mem_of_getElem? (i := 1096) (by decide +kernel), rfl⟩
theorem ml_X5_29 : (.methodLink RX5 29 yX5_begin : Cond) ∈ ab_all := List.mem_filter.mpr ⟨List.mem_of_getElem? (i := 1097) (by decide +kernel), rfl⟩
theorem im_X5_begin : (.instanceMethod yX5_begin : Cond) ∈ ab_all := List.mem_filter.mpr ⟨List.mem_of_getElem? (i := 1099) (by decide +kernel), rfl⟩
theorem co_X5_begin : (.code yX5_begin cX5_begin 2 none : Cond) ∈ ab_all := List.mem_filter.mpr ⟨List.mem_of_getElem? (i := 1100) (by decide +kernel), rfl⟩
theorem mn_X5_77 : (.methodLinkNest RX5 77 yX7_copyFrom "ShuttleRow" : Cond) ∈ ab_nest := List.mem_filter.mpr ⟨List.mem_of_getElem? (i := 1101) (by decide +kernel), rfl⟩
theorem mn_X5_68 : (.methodLinkNest RX5 68 yX7_sortFrom "ShuttleRow" : Cond) ∈ ab_nest := List.mem_filter.mpr ⟨List.mem_of_getElem? (i := 1102) (by decide +kernel), rfl⟩
theorem im_X7_sortFrom : (.instanceMethod yX7_sortFrom : Cond) ∈ ab_all := List.mem_filter.mpr ⟨List.mem_of_getElem? (i := 1104) (by decide +kernel), rfl⟩
theorem co_X7_sortFrom : (.code yX7_sortFrom cX7_sortFrom 5 none : Cond) ∈ ab_all := List.mem_filter.mpr ⟨List.mem_of_getElem? (i := 1105) (by decide +kernel), rfl⟩
theorem ml_X7_34 : (.methodLink RX7 34 yX7_swap : Cond) ∈ ab_all := List.mem_filter.mpr ⟨List.mem_of_getElem? (i := 1106) (by decide +kernel), rfl⟩
theorem im_X7_swap : (.instanceMethod yX7_swap : Cond) ∈ ab_all := List.mem_filter.mpr ⟨List.mem_of_getElem? (i := 1108) (by decide +kernel), rfl⟩
theorem co_X7_swap : (.code yX7_swap cX7_swap 4 none : Cond) ∈ ab_all := List.mem_filter.mpr ⟨List.mem_of_getElem? (i := 1109) (by decide +kernel), rfl⟩
theorem mn_X5_33 : (.methodLinkNest RX5 33 yX3_lengthOf "ShuttleRow" : Cond) ∈ ab_nest := List.mem_filter.mpr ⟨List.mem_of_getElem? (i := 1110) (by decide +kernel), rfl⟩
theorem mn_X5_59 : (.methodLinkNest RX5 59 yX8_follow "ShuttleRow" : Cond) ∈ ab_nest := List.mem_filter.mpr ⟨List.mem_of_getElem? (i := 1111) (by decide +kernel), rfl⟩
theorem ml_X5_51 : (.methodLink RX5 51 yX5_keep : Cond) ∈ ab_all := List.mem_filter.mpr ⟨List.mem_of_getElem? (i := 1112) (by decide +kernel), rfl⟩
theorem im_X5_keep : (.instanceMethod yX5_keep : Cond) ∈ ab_all := List.mem_filter.mpr ⟨List.mem_of_getElem? (i := 1114) (by decide +kernel), rfl⟩
theorem co_X5_keep : (.code yX5_keep cX5_keep 2 none : Cond) ∈ ab_all := List.mem_filter.mpr ⟨List.mem_of_getElem? (i := 1115) (by decide +kernel), rfl⟩
theorem mn_X5_55 : (.methodLinkNest RX5 55 yX7_turnToNext "ShuttleRow" : Cond) ∈ ab_nest := List.mem_filter.mpr ⟨List.mem_of_getElem? (i := 1116) (by decide +kernel), rfl⟩
theorem im_X7_turnToNext : (.instanceMethod yX7_turnToNext : Cond) ∈ ab_all := List.mem_filter.mpr ⟨List.mem_of_getElem? (i := 1118) (by decide +kernel), rfl⟩
theorem co_X7_turnToNext : (.code yX7_turnToNext cX7_turnToNext 3 (some .boolean) : Cond) ∈ ab_all := List.mem_filter.mpr ⟨List.mem_of_getElem? (i := 1119) (by decide +kernel), rfl⟩
theorem ml_X7_37 : (.methodLink RX7 37 yX7_sortFrom : Cond) ∈ ab_all := List.mem_filter.mpr ⟨List.mem_of_getElem? (i := 1120) (by decide +kernel), rfl⟩
theorem ml_L_218 : (.methodLink RL 218 yL_bestLengthByTrying : Cond) ∈ ab_all := List.mem_filter.mpr ⟨List.mem_of_getElem? (i := 1121) (by decide +kernel), rfl⟩
theorem sc_L_bestLengthByTrying : (.static yL_bestLengthByTrying : Cond) ∈ ab_all := List.mem_filter.mpr ⟨List.mem_of_getElem? (i := 1122) (by decide +kernel), rfl⟩
theorem co_L_bestLengthByTrying : (.codeWith yL_bestLengthByTrying cL_bestLengthByTrying 4 (some .int) [(0, 9, 12, 44)] : Cond) ∈ ab_all := List.mem_filter.mpr ⟨List.mem_of_getElem? (i := 1123) (by decide +kernel), rfl⟩
theorem ml_L_88 : (.methodLink RL 88 yX9_bestLengthByTrying : Cond) ∈ ab_all := List.mem_filter.mpr ⟨List.mem_of_getElem? (i := 1124) (by decide +kernel), rfl⟩
theorem im_X9_bestLengthByTrying : (.instanceMethod yX9_bestLengthByTrying : Cond) ∈ ab_all := List.mem_filter.mpr ⟨List.mem_of_getElem? (i := 1125) (by decide +kernel), rfl⟩
theorem se_X9_bestLengthByTrying : (.selects RX9 yX9_bestLengthByTrying yX9_bestLengthByTrying : Cond) ∈ ab_all := List.mem_filter.mpr ⟨List.mem_of_getElem? (i := 1126) (by decide +kernel), rfl⟩
theorem co_X9_bestLengthByTrying : (.code yX9_bestLengthByTrying cX9_bestLengthByTrying 3 (some .int) : Cond) ∈ ab_all := List.mem_filter.mpr ⟨List.mem_of_getElem? (i := 1127) (by decide +kernel), rfl⟩
theorem mn_X9_249 : (.methodLinkNest RX9 249 yX5_tryAll "ShuttleRow" : Cond) ∈ ab_nest := List.mem_filter.mpr ⟨List.mem_of_getElem? (i := 1128) (by decide +kernel), rfl⟩
theorem im_X5_tryAll : (.instanceMethod yX5_tryAll : Cond) ∈ ab_all := List.mem_filter.mpr ⟨List.mem_of_getElem? (i := 1130) (by decide +kernel), rfl⟩
theorem co_X5_tryAll : (.code yX5_tryAll cX5_tryAll 5 none : Cond) ∈ ab_all := List.mem_filter.mpr ⟨List.mem_of_getElem? (i := 1131) (by decide +kernel), rfl⟩
theorem mn_X5_43 : (.methodLinkNest RX5 43 yX3_dropsAheadOfPickup "ShuttleRow" : Cond) ∈ ab_nest := List.mem_filter.mpr ⟨List.mem_of_getElem? (i := 1132) (by decide +kernel), rfl⟩
theorem im_X3_dropsAheadOfPickup : (.instanceMethod yX3_dropsAheadOfPickup : Cond) ∈ ab_all := List.mem_filter.mpr ⟨List.mem_of_getElem? (i := 1134) (by decide +kernel), rfl⟩
theorem co_X3_dropsAheadOfPickup : (.code yX3_dropsAheadOfPickup cX3_dropsAheadOfPickup 4 (some .boolean) : Cond) ∈ ab_all := List.mem_filter.mpr ⟨List.mem_of_getElem? (i := 1135) (by decide +kernel), rfl⟩
theorem mn_X5_47 : (.methodLinkNest RX5 47 yX3_faultOf "ShuttleRow" : Cond) ∈ ab_nest := List.mem_filter.mpr ⟨List.mem_of_getElem? (i := 1136) (by decide +kernel), rfl⟩
theorem ml_L_221 : (.methodLink RL 221 yL_improve : Cond) ∈ ab_all := List.mem_filter.mpr ⟨List.mem_of_getElem? (i := 1137) (by decide +kernel), rfl⟩
theorem sc_L_improve : (.static yL_improve : Cond) ∈ ab_all := List.mem_filter.mpr ⟨List.mem_of_getElem? (i := 1138) (by decide +kernel), rfl⟩
theorem co_L_improve : (.codeWith yL_improve cL_improve 4 (some .int) [(0, 9, 12, 44)] : Cond) ∈ ab_all := List.mem_filter.mpr ⟨List.mem_of_getElem? (i := 1139) (by decide +kernel), rfl⟩
theorem ml_L_91 : (.methodLink RL 91 yX9_improve : Cond) ∈ ab_all := List.mem_filter.mpr ⟨List.mem_of_getElem? (i := 1140) (by decide +kernel), rfl⟩
theorem im_X9_improve : (.instanceMethod yX9_improve : Cond) ∈ ab_all := List.mem_filter.mpr ⟨List.mem_of_getElem? (i := 1141) (by decide +kernel), rfl⟩
theorem se_X9_improve : (.selects RX9 yX9_improve yX9_improve : Cond) ∈ ab_all := List.mem_filter.mpr ⟨List.mem_of_getElem? (i := 1142) (by decide +kernel), rfl⟩
theorem co_X9_improve : (.code yX9_improve cX9_improve 5 (some .int) : Cond) ∈ ab_all := List.mem_filter.mpr ⟨List.mem_of_getElem? (i := 1143) (by decide +kernel), rfl⟩
theorem ml_L_224 : (.methodLink RL 224 yL_pass : Cond) ∈ ab_all := List.mem_filter.mpr ⟨List.mem_of_getElem? (i := 1144) (by decide +kernel), rfl⟩
theorem sc_L_pass : (.static yL_pass : Cond) ∈ ab_all := List.mem_filter.mpr ⟨List.mem_of_getElem? (i := 1145) (by decide +kernel), rfl⟩
theorem co_L_pass : (.codeWith yL_pass cL_pass 4 (some .int) [(0, 9, 12, 13)] : Cond) ∈ ab_all := List.mem_filter.mpr ⟨List.mem_of_getElem? (i := 1146) (by decide +kernel), rfl⟩
theorem ml_L_94 : (.methodLink RL 94 yX9_pass : Cond) ∈ ab_all := List.mem_filter.mpr ⟨List.mem_of_getElem? (i := 1147) (by decide +kernel), rfl⟩
theorem im_X9_pass : (.instanceMethod yX9_pass : Cond) ∈ ab_all := List.mem_filter.mpr ⟨List.mem_of_getElem? (i := 1148) (by decide +kernel), rfl⟩
theorem se_X9_pass : (.selects RX9 yX9_pass yX9_pass : Cond) ∈ ab_all := List.mem_filter.mpr ⟨List.mem_of_getElem? (i := 1149) (by decide +kernel), rfl⟩
theorem co_X9_pass : (.code yX9_pass cX9_pass 6 (some .int) : Cond) ∈ ab_all := List.mem_filter.mpr ⟨List.mem_of_getElem? (i := 1150) (by decide +kernel), rfl⟩
theorem ml_X9_253 : (.methodLink RX9 253 yX9_spendMinute : Cond) ∈ ab_all := List.mem_filter.mpr ⟨List.mem_of_getElem? (i := 1152) (by decide +kernel), rfl⟩
theorem im_X9_spendMinute : (.instanceMethod yX9_spendMinute : Cond) ∈ ab_all := List.mem_filter.mpr ⟨List.mem_of_getElem? (i := 1154) (by decide +kernel), rfl⟩
theorem co_X9_spendMinute : (.code yX9_spendMinute cX9_spendMinute 3 none : Cond) ∈ ab_all := List.mem_filter.mpr ⟨List.mem_of_getElem? (i := 1155) (by decide +kernel), rfl⟩
theorem mn_X9_368 : (.methodLinkNest RX9 368 yX0_xOf "ShuttleRow" : Cond) ∈ ab_nest := List.mem_filter.mpr ⟨List.mem_of_getElem? (i := 1156) (by decide +kernel), rfl⟩
theorem mn_X9_371 : (.methodLinkNest RX9 371 yX0_yOf "ShuttleRow" : Cond) ∈ ab_nest := List.mem_filter.mpr ⟨List.mem_of_getElem? (i := 1157) (by decide +kernel), rfl⟩
theorem mn_X9_374 : (.methodLinkNest RX9 374 yX1_driveTowards "ShuttleRow" : Cond) ∈ ab_nest := List.mem_filter.mpr ⟨List.mem_of_getElem? (i := 1158) (by decide +kernel), rfl⟩
theorem im_X1_driveTowards : (.instanceMethod yX1_driveTowards : Cond) ∈ ab_all := List.mem_filter.mpr ⟨List.mem_of_getElem? (i := 1160) (by decide +kernel), rfl⟩
theorem co_X1_driveTowards : (.code yX1_driveTowards cX1_driveTowards 3 none : Cond) ∈ ab_all := List.mem_filter.mpr ⟨List.mem_of_getElem? (i := 1161) (by decide +kernel), rfl⟩
theorem ml_X9_387 : (.methodLink RX9 387 yJ9_min_7cf53 : Cond) ∈ ab_all := List.mem_filter.mpr ⟨List.mem_of_getElem? (i := 1162) (by decide +kernel), rfl⟩
theorem ml_L_231 : (.methodLink RL 231 yL_x : Cond) ∈ ab_all := List.mem_filter.mpr ⟨List.mem_of_getElem? (i := 1163) (by decide +kernel), rfl⟩
theorem sc_L_x : (.static yL_x : Cond) ∈ ab_all := List.mem_filter.mpr ⟨List.mem_of_getElem? (i := 1164) (by decide +kernel), rfl⟩
theorem co_L_x : (.codeWith yL_x cL_x 4 (some .int) [(0, 9, 12, 44)] : Cond) ∈ ab_all := List.mem_filter.mpr ⟨List.mem_of_getElem? (i := 1165) (by decide +kernel), rfl⟩
theorem ml_L_97 : (.methodLink RL 97 yX9_x : Cond) ∈ ab_all := List.mem_filter.mpr ⟨List.mem_of_getElem? (i := 1166) (by decide +kernel), rfl⟩
theorem im_X9_x : (.instanceMethod yX9_x : Cond) ∈ ab_all := List.mem_filter.mpr ⟨List.mem_of_getElem? (i := 1167) (by decide +kernel), rfl⟩
theorem se_X9_x : (.selects RX9 yX9_x yX9_x : Cond) ∈ ab_all := List.mem_filter.mpr ⟨List.mem_of_getElem? (i := 1168) (by decide +kernel), rfl⟩
theorem co_X9_x : (.code yX9_x cX9_x 2 (some .int) : Cond) ∈ ab_all := List.mem_filter.mpr ⟨List.mem_of_getElem? (i := 1169) (by decide +kernel), rfl⟩
theorem ml_L_234 : (.methodLink RL 234 yL_y : Cond) ∈ ab_all := List.mem_filter.mpr ⟨List.mem_of_getElem? (i := 1170) (by decide +kernel), rfl⟩
theorem sc_L_y : (.static yL_y : Cond) ∈ ab_all := List.mem_filter.mpr ⟨List.mem_of_getElem? (i := 1171) (by decide +kernel), rfl⟩
theorem co_L_y : (.codeWith yL_y cL_y 4 (some .int) [(0, 9, 12, 44)] : Cond) ∈ ab_all := List.mem_filter.mpr ⟨List.mem_of_getElem? (i := 1172) (by decide +kernel), rfl⟩
theorem ml_L_100 : (.methodLink RL 100 yX9_y : Cond) ∈ ab_all := List.mem_filter.mpr ⟨List.mem_of_getElem? (i := 1173) (by decide +kernel), rfl⟩
theorem im_X9_y : (.instanceMethod yX9_y : Cond) ∈ ab_all := List.mem_filter.mpr ⟨List.mem_of_getElem? (i := 1174) (by decide +kernel), rfl⟩
theorem se_X9_y : (.selects RX9 yX9_y yX9_y : Cond) ∈ ab_all := List.mem_filter.mpr ⟨List.mem_of_getElem? (i := 1175) (by decide +kernel), rfl⟩
theorem co_X9_y : (.code yX9_y cX9_y 2 (some .int) : Cond) ∈ ab_all := List.mem_filter.mpr ⟨List.mem_of_getElem? (i := 1176) (by decide +kernel), rfl⟩
theorem ml_L_237 : (.methodLink RL 237 yL_charge : Cond) ∈ ab_all := List.mem_filter.mpr ⟨List.mem_of_getElem? (i := 1177) (by decide +kernel), rfl⟩
theorem sc_L_charge : (.static yL_charge : Cond) ∈ ab_all := List.mem_filter.mpr ⟨List.mem_of_getElem? (i := 1178) (by decide +kernel), rfl⟩
theorem co_L_charge : (.codeWith yL_charge cL_charge 4 (some .int) [(0, 9, 12, 44)] : Cond) ∈ ab_all := List.mem_filter.mpr ⟨List.mem_of_getElem? (i := 1179) (by decide +kernel), rfl⟩
theorem ml_L_103 : (.methodLink RL 103 yX9_charge : Cond) ∈ ab_all := List.mem_filter.mpr ⟨List.mem_of_getElem? (i := 1180) (by decide +kernel), rfl⟩
theorem im_X9_charge : (.instanceMethod yX9_charge : Cond) ∈ ab_all := List.mem_filter.mpr ⟨List.mem_of_getElem? (i := 1181) (by decide +kernel), rfl⟩
theorem se_X9_charge : (.selects RX9 yX9_charge yX9_charge : Cond) ∈ ab_all := List.mem_filter.mpr ⟨List.mem_of_getElem? (i := 1182) (by decide +kernel), rfl⟩
theorem co_X9_charge : (.code yX9_charge cX9_charge 2 (some .int) : Cond) ∈ ab_all := List.mem_filter.mpr ⟨List.mem_of_getElem? (i := 1183) (by decide +kernel), rfl⟩
theorem ml_L_240 : (.methodLink RL 240 yL_onBoard : Cond) ∈ ab_all := List.mem_filter.mpr ⟨List.mem_of_getElem? (i := 1184) (by decide +kernel), rfl⟩
theorem sc_L_onBoard : (.static yL_onBoard : Cond) ∈ ab_all := List.mem_filter.mpr ⟨List.mem_of_getElem? (i := 1185) (by decide +kernel), rfl⟩
theorem co_L_onBoard : (.codeWith yL_onBoard cL_onBoard 4 (some .int) [(0, 9, 12, 44)] : Cond) ∈ ab_all := List.mem_filter.mpr ⟨List.mem_of_getElem? (i := 1186) (by decide +kernel), rfl⟩
theorem ml_L_106 : (.methodLink RL 106 yX9_onBoard : Cond) ∈ ab_all := List.mem_filter.mpr ⟨List.mem_of_getElem? (i := 1187) (by decide +kernel), rfl⟩
theorem im_X9_onBoard : (.instanceMethod yX9_onBoard : Cond) ∈ ab_all := List.mem_filter.mpr ⟨List.mem_of_getElem? (i := 1188) (by decide +kernel), rfl⟩
theorem se_X9_onBoard : (.selects RX9 yX9_onBoard yX9_onBoard : Cond) ∈ ab_all := List.mem_filter.mpr ⟨List.mem_of_getElem? (i := 1189) (by decide +kernel), rfl⟩
theorem co_X9_onBoard : (.code yX9_onBoard cX9_onBoard 2 (some .int) : Cond) ∈ ab_all := List.mem_filter.mpr ⟨List.mem_of_getElem? (i := 1190) (by decide +kernel), rfl⟩
theorem ml_L_243 : (.methodLink RL 243 yL_driven : Cond) ∈ ab_all := List.mem_filter.mpr ⟨List.mem_of_getElem? (i := 1191) (by decide +kernel), rfl⟩
theorem sc_L_driven : (.static yL_driven : Cond) ∈ ab_all := List.mem_filter.mpr ⟨List.mem_of_getElem? (i := 1192) (by decide +kernel), rfl⟩
theorem co_L_driven : (.codeWith yL_driven cL_driven 4 (some .int) [(0, 9, 12, 44)] : Cond) ∈ ab_all := List.mem_filter.mpr ⟨List.mem_of_getElem? (i := 1193) (by decide +kernel), rfl⟩
theorem ml_L_109 : (.methodLink RL 109 yX9_driven : Cond) ∈ ab_all := List.mem_filter.mpr ⟨List.mem_of_getElem? (i := 1194) (by decide +kernel), rfl⟩
theorem im_X9_driven : (.instanceMethod yX9_driven : Cond) ∈ ab_all := List.mem_filter.mpr ⟨List.mem_of_getElem? (i := 1195) (by decide +kernel), rfl⟩
theorem se_X9_driven : (.selects RX9 yX9_driven yX9_driven : Cond) ∈ ab_all := List.mem_filter.mpr ⟨List.mem_of_getElem? (i := 1196) (by decide +kernel), rfl⟩
theorem co_X9_driven : (.code yX9_driven cX9_driven 2 (some .int) : Cond) ∈ ab_all := List.mem_filter.mpr ⟨List.mem_of_getElem? (i := 1197) (by decide +kernel), rfl⟩
theorem ml_L_246 : (.methodLink RL 246 yL_empty : Cond) ∈ ab_all := List.mem_filter.mpr ⟨List.mem_of_getElem? (i := 1198) (by decide +kernel), rfl⟩
theorem sc_L_empty : (.static yL_empty : Cond) ∈ ab_all := List.mem_filter.mpr ⟨List.mem_of_getElem? (i := 1199) (by decide +kernel), rfl⟩
theorem co_L_empty : (.codeWith yL_empty cL_empty 4 (some .int) [(0, 9, 12, 44)] : Cond) ∈ ab_all := List.mem_filter.mpr ⟨List.mem_of_getElem? (i := 1200) (by decide +kernel), rfl⟩
theorem ml_L_112 : (.methodLink RL 112 yX9_empty : Cond) ∈ ab_all := List.mem_filter.mpr ⟨List.mem_of_getElem? (i := 1201) (by decide +kernel), rfl⟩
theorem im_X9_empty : (.instanceMethod yX9_empty : Cond) ∈ ab_all := List.mem_filter.mpr ⟨List.mem_of_getElem? (i := 1202) (by decide +kernel), rfl⟩
theorem se_X9_empty : (.selects RX9 yX9_empty yX9_empty : Cond) ∈ ab_all := List.mem_filter.mpr ⟨List.mem_of_getElem? (i := 1203) (by decide +kernel), rfl⟩
theorem co_X9_empty : (.code yX9_empty cX9_empty 2 (some .int) : Cond) ∈ ab_all := List.mem_filter.mpr ⟨List.mem_of_getElem? (i := 1204) (by decide +kernel), rfl⟩
theorem ml_L_249 : (.methodLink RL 249 yL_emptyByJournal : Cond) ∈ ab_all := List.mem_filter.mpr ⟨List.mem_of_getElem? (i := 1205) (by decide +kernel), rfl⟩
theorem sc_L_emptyByJournal : (.static yL_emptyByJournal : Cond) ∈ ab_all := List.mem_filter.mpr ⟨List.mem_of_getElem? (i := 1206) (by decide +kernel), rfl⟩
theorem co_L_emptyByJournal : (.codeWith yL_emptyByJournal cL_emptyByJournal 4 (some .int) [(0, 9, 12, 44)] : Cond) ∈ ab_all := List.mem_filter.mpr ⟨List.mem_of_getElem? (i := 1207) (by decide +kernel), rfl⟩
theorem ml_L_115 : (.methodLink RL 115 yX9_emptyByJournal : Cond) ∈ ab_all := List.mem_filter.mpr ⟨List.mem_of_getElem? (i := 1208) (by decide +kernel), rfl⟩
theorem im_X9_emptyByJournal : (.instanceMethod yX9_emptyByJournal : Cond) ∈ ab_all := List.mem_filter.mpr ⟨List.mem_of_getElem? (i := 1209) (by decide +kernel), rfl⟩
theorem se_X9_emptyByJournal : (.selects RX9 yX9_emptyByJournal yX9_emptyByJournal : Cond) ∈ ab_all := List.mem_filter.mpr ⟨List.mem_of_getElem? (i := 1210) (by decide +kernel), rfl⟩
theorem co_X9_emptyByJournal : (.code yX9_emptyByJournal cX9_emptyByJournal 3 (some .int) : Cond) ∈ ab_all := List.mem_filter.mpr ⟨List.mem_of_getElem? (i := 1211) (by decide +kernel), rfl⟩
theorem mn_X9_275 : (.methodLinkNest RX9 275 yX4_emptyDistance "ShuttleRow" : Cond) ∈ ab_nest := List.mem_filter.mpr ⟨List.mem_of_getElem? (i := 1212) (by decide +kernel), rfl⟩
theorem im_X4_emptyDistance : (.instanceMethod yX4_emptyDistance : Cond) ∈ ab_all := List.mem_filter.mpr ⟨List.mem_of_getElem? (i := 1214) (by decide +kernel), rfl⟩
theorem co_X4_emptyDistance : (.code yX4_emptyDistance cX4_emptyDistance 9 (some .int) : Cond) ∈ ab_all := List.mem_filter.mpr ⟨List.mem_of_getElem? (i := 1215) (by decide +kernel), rfl⟩
theorem ml_X4_28 : (.methodLink RX4 28 yX4_busAt : Cond) ∈ ab_all := List.mem_filter.mpr ⟨List.mem_of_getElem? (i := 1216) (by decide +kernel), rfl⟩
theorem im_X4_busAt : (.instanceMethod yX4_busAt : Cond) ∈ ab_all := List.mem_filter.mpr ⟨List.mem_of_getElem? (i := 1218) (by decide +kernel), rfl⟩
theorem co_X4_busAt : (.code yX4_busAt cX4_busAt 2 (some .int) : Cond) ∈ ab_all := List.mem_filter.mpr ⟨List.mem_of_getElem? (i := 1219) (by decide +kernel), rfl⟩
theorem ml_X4_32 : (.methodLink RX4 32 yX4_distanceAt : Cond) ∈ ab_all := List.mem_filter.mpr ⟨List.mem_of_getElem? (i := 1220) (by decide +kernel), rfl⟩
theorem im_X4_distanceAt : (.instanceMethod yX4_distanceAt : Cond) ∈ ab_all := List.mem_filter.mpr ⟨List.mem_of_getElem? (i := 1222) (by decide +kernel), rfl⟩
theorem co_X4_distanceAt : (.code yX4_distanceAt cX4_distanceAt 2 (some .int) : Cond) ∈ ab_all := List.mem_filter.mpr ⟨List.mem_of_getElem? (i := 1223) (by decide +kernel), rfl⟩
theorem ml_X4_35 : (.methodLink RX4 35 yX4_requestAt : Cond) ∈ ab_all := List.mem_filter.mpr ⟨List.mem_of_getElem? (i := 1224) (by decide +kernel), rfl⟩
theorem im_X4_requestAt : (.instanceMethod yX4_requestAt : Cond) ∈ ab_all := List.mem_filter.mpr ⟨List.mem_of_getElem? (i := 1226) (by decide +kernel), rfl⟩
theorem co_X4_requestAt : (.code yX4_requestAt cX4_requestAt 2 (some .int) : Cond) ∈ ab_all := List.mem_filter.mpr ⟨List.mem_of_getElem? (i := 1227) (by decide +kernel), rfl⟩
theorem mn_X4_38 : (.methodLinkNest RX4 38 yX0_requestAt "ShuttleRow" : Cond) ∈ ab_nest := List.mem_filter.mpr ⟨List.mem_of_getElem? (i := 1228) (by decide +kernel), rfl⟩
theorem ml_X4_48 : (.methodLink RX4 48 yX4_isFirstOfRequest : Cond) ∈ ab_all := List.mem_filter.mpr ⟨List.mem_of_getElem? (i := 1229) (by decide +kernel), rfl⟩
theorem im_X4_isFirstOfRequest : (.instanceMethod yX4_isFirstOfRequest : Cond) ∈ ab_all := List.mem_filter.mpr ⟨List.mem_of_getElem? (i := 1231) (by decide +kernel), rfl⟩
theorem co_X4_isFirstOfRequest : (.code yX4_isFirstOfRequest cX4_isFirstOfRequest 3 (some .boolean) : Cond) ∈ ab_all := List.mem_filter.mpr ⟨List.mem_of_getElem? (i := 1232) (by decide +kernel), rfl⟩
theorem ml_L_252 : (.methodLink RL 252 yL_occupancy : Cond) ∈ ab_all := List.mem_filter.mpr ⟨List.mem_of_getElem? (i := 1233) (by decide +kernel), rfl⟩
theorem sc_L_occupancy : (.static yL_occupancy : Cond) ∈ ab_all := List.mem_filter.mpr ⟨List.mem_of_getElem? (i := 1234) (by decide +kernel), rfl⟩
theorem co_L_occupancy : (.codeWith yL_occupancy cL_occupancy 4 (some .int) [(0, 9, 12, 44), (0, 9, 15, 33)] : Cond) ∈ ab_all := List.mem_filter.mpr ⟨List.mem_of_getElem? (i := 1235) (by decide +kernel), rfl⟩
theorem ml_L_118 : (.methodLink RL 118 yX9_occupancy : Cond) ∈ ab_all := List.mem_filter.mpr ⟨List.mem_of_getElem? (i := 1236) (by decide +kernel), rfl⟩
theorem im_X9_occupancy : (.instanceMethod yX9_occupancy : Cond) ∈ ab_all := List.mem_filter.mpr ⟨List.mem_of_getElem? (i := 1237) (by decide +kernel), rfl⟩
theorem se_X9_occupancy : (.selects RX9 yX9_occupancy yX9_occupancy : Cond) ∈ ab_all := List.mem_filter.mpr ⟨List.mem_of_getElem? (i := 1238) (by decide +kernel), rfl⟩
theorem co_X9_occupancy : (.code yX9_occupancy cX9_occupancy 3 (some .float) : Cond) ∈ ab_all := List.mem_filter.mpr ⟨List.mem_of_getElem? (i := 1239) (by decide +kernel), rfl⟩
theorem ml_L_260 : (.methodLink RL 260 yL_entryBus : Cond) ∈ ab_all := List.mem_filter.mpr ⟨List.mem_of_getElem? (i := 1241) (by decide +kernel), rfl⟩
theorem sc_L_entryBus : (.static yL_entryBus : Cond) ∈ ab_all := List.mem_filter.mpr ⟨List.mem_of_getElem? (i := 1242) (by decide +kernel), rfl⟩
theorem co_L_entryBus : (.codeWith yL_entryBus cL_entryBus 4 (some .int) [(0, 9, 12, 44)] : Cond) ∈ ab_all := List.mem_filter.mpr ⟨List.mem_of_getElem? (i := 1243) (by decide +kernel), rfl⟩
theorem ml_L_122 : (.methodLink RL 122 yX9_entryBus : Cond) ∈ ab_all := List.mem_filter.mpr ⟨List.mem_of_getElem? (i := 1244) (by decide +kernel), rfl⟩
theorem im_X9_entryBus : (.instanceMethod yX9_entryBus : Cond) ∈ ab_all := List.mem_filter.mpr ⟨List.mem_of_getElem? (i := 1245) (by decide +kernel), rfl⟩
theorem se_X9_entryBus : (.selects RX9 yX9_entryBus yX9_entryBus : Cond) ∈ ab_all := List.mem_filter.mpr ⟨List.mem_of_getElem? (i := 1246) (by decide +kernel), rfl⟩
theorem co_X9_entryBus : (.code yX9_entryBus cX9_entryBus 2 (some .int) : Cond) ∈ ab_all := List.mem_filter.mpr ⟨List.mem_of_getElem? (i := 1247) (by decide +kernel), rfl⟩
theorem ml_X9_288 : (.methodLink RX9 288 yX9_checkEntry : Cond) ∈ ab_all := List.mem_filter.mpr ⟨List.mem_of_getElem? (i := 1248) (by decide +kernel), rfl⟩
theorem im_X9_checkEntry : (.instanceMethod yX9_checkEntry : Cond) ∈ ab_all := List.mem_filter.mpr ⟨List.mem_of_getElem? (i := 1250) (by decide +kernel), rfl⟩
theorem co_X9_checkEntry : (.code yX9_checkEntry cX9_checkEntry 2 none : Cond) ∈ ab_all := List.mem_filter.mpr ⟨List.mem_of_getElem? (i := 1251) (by decide +kernel), rfl⟩
theorem mn_X9_291 : (.methodLinkNest RX9 291 yX4_busAt "ShuttleRow" : Cond) ∈ ab_nest := List.mem_filter.mpr ⟨List.mem_of_getElem? (i := 1253) (by decide +kernel), rfl⟩
theorem ml_L_263 : (.methodLink RL 263 yL_entryRequest : Cond) ∈ ab_all := List.mem_filter.mpr ⟨List.mem_of_getElem? (i := 1254) (by decide +kernel), rfl⟩
theorem sc_L_entryRequest : (.static yL_entryRequest : Cond) ∈ ab_all := List.mem_filter.mpr ⟨List.mem_of_getElem? (i := 1255) (by decide +kernel), rfl⟩
theorem co_L_entryRequest : (.codeWith yL_entryRequest cL_entryRequest 4 (some .int) [(0, 9, 12, 44)] : Cond) ∈ ab_all := List.mem_filter.mpr ⟨List.mem_of_getElem? (i := 1256) (by decide +kernel), rfl⟩
theorem ml_L_125 : (.methodLink RL 125 yX9_entryRequest : Cond) ∈ ab_all := List.mem_filter.mpr ⟨List.mem_of_getElem? (i := 1257) (by decide +kernel), rfl⟩
theorem im_X9_entryRequest : (.instanceMethod yX9_entryRequest : Cond) ∈ ab_all := List.mem_filter.mpr ⟨List.mem_of_getElem? (i := 1258) (by decide +kernel), rfl⟩
theorem se_X9_entryRequest : (.selects RX9 yX9_entryRequest yX9_entryRequest : Cond) ∈ ab_all := List.mem_filter.mpr ⟨List.mem_of_getElem? (i := 1259) (by decide +kernel), rfl⟩
theorem co_X9_entryRequest : (.code yX9_entryRequest cX9_entryRequest 2 (some .int) : Cond) ∈ ab_all := List.mem_filter.mpr ⟨List.mem_of_getElem? (i := 1260) (by decide +kernel), rfl⟩
theorem mn_X9_294 : (.methodLinkNest RX9 294 yX4_requestAt "ShuttleRow" : Cond) ∈ ab_nest := List.mem_filter.mpr ⟨List.mem_of_getElem? (i := 1261) (by decide +kernel), rfl⟩
theorem ml_L_266 : (.methodLink RL 266 yL_entryTime : Cond) ∈ ab_all := List.mem_filter.mpr ⟨List.mem_of_getElem? (i := 1262) (by decide +kernel), rfl⟩
theorem sc_L_entryTime : (.static yL_entryTime : Cond) ∈ ab_all := List.mem_filter.mpr ⟨List.mem_of_getElem? (i := 1263) (by decide +kernel), rfl⟩
theorem co_L_entryTime : (.codeWith yL_entryTime cL_entryTime 4 (some .int) [(0, 9, 12, 44)] : Cond) ∈ ab_all := List.mem_filter.mpr ⟨List.mem_of_getElem? (i := 1264) (by decide +kernel), rfl⟩
theorem ml_L_128 : (.methodLink RL 128 yX9_entryTime : Cond) ∈ ab_all := List.mem_filter.mpr ⟨List.mem_of_getElem? (i := 1265) (by decide +kernel), rfl⟩
theorem im_X9_entryTime : (.instanceMethod yX9_entryTime : Cond) ∈ ab_all := List.mem_filter.mpr ⟨List.mem_of_getElem? (i := 1266) (by decide +kernel), rfl⟩
theorem se_X9_entryTime : (.selects RX9 yX9_entryTime yX9_entryTime : Cond) ∈ ab_all := List.mem_filter.mpr ⟨List.mem_of_getElem? (i := 1267) (by decide +kernel), rfl⟩
theorem co_X9_entryTime : (.code yX9_entryTime cX9_entryTime 2 (some .int) : Cond) ∈ ab_all := List.mem_filter.mpr ⟨List.mem_of_getElem? (i := 1268) (by decide +kernel), rfl⟩
theorem mn_X9_297 : (.methodLinkNest RX9 297 yX4_timeAt "ShuttleRow" : Cond) ∈ ab_nest := List.mem_filter.mpr ⟨List.mem_of_getElem? (i := 1269) (by decide +kernel), rfl⟩
theorem im_X4_timeAt : (.instanceMethod yX4_timeAt : Cond) ∈ ab_all := List.mem_filter.mpr ⟨List.mem_of_getElem? (i := 1271) (by decide +kernel), rfl⟩
theorem co_X4_timeAt : (.code yX4_timeAt cX4_timeAt 2 (some .int) : Cond) ∈ ab_all := List.mem_filter.mpr ⟨List.mem_of_getElem? (i := 1272) (by decide +kernel), rfl⟩
theorem ml_L_269 : (.methodLink RL 269 yL_entryDistance : Cond) ∈ ab_all := List.mem_filter.mpr ⟨List.mem_of_getElem? (i := 1273) (by decide +kernel), rfl⟩
theorem sc_L_entryDistance : (.static yL_entryDistance : Cond) ∈ ab_all := List.mem_filter.mpr ⟨List.mem_of_getElem? (i := 1274) (by decide +kernel), rfl⟩
theorem co_L_entryDistance : (.codeWith yL_entryDistance cL_entryDistance 4 (some .int) [(0, 9, 12, 44)] : Cond) ∈ ab_all := List.mem_filter.mpr ⟨List.mem_of_getElem? (i := 1275) (by decide +kernel), rfl⟩
theorem ml_L_131 : (.methodLink RL 131 yX9_entryDistance : Cond) ∈ ab_all := List.mem_filter.mpr ⟨List.mem_of_getElem? (i := 1276) (by decide +kernel), rfl⟩
theorem im_X9_entryDistance : (.instanceMethod yX9_entryDistance : Cond) ∈ ab_all := List.mem_filter.mpr ⟨List.mem_of_getElem? (i := 1277) (by decide +kernel), rfl⟩
theorem se_X9_entryDistance : (.selects RX9 yX9_entryDistance yX9_entryDistance : Cond) ∈ ab_all := List.mem_filter.mpr ⟨List.mem_of_getElem? (i := 1278) (by decide +kernel), rfl⟩
theorem co_X9_entryDistance : (.code yX9_entryDistance cX9_entryDistance 2 (some .int) : Cond) ∈ ab_all := List.mem_filter.mpr ⟨List.mem_of_getElem? (i := 1279) (by decide +kernel), rfl⟩
theorem mn_X9_300 : (.methodLinkNest RX9 300 yX4_distanceAt "ShuttleRow" : Cond) ∈ ab_nest := List.mem_filter.mpr ⟨List.mem_of_getElem? (i := 1280) (by decide +kernel), rfl⟩
theorem ml_L_272 : (.methodLink RL 272 yL_worstRide : Cond) ∈ ab_all := List.mem_filter.mpr ⟨List.mem_of_getElem? (i := 1281) (by decide +kernel), rfl⟩
theorem sc_L_worstRide : (.static yL_worstRide : Cond) ∈ ab_all := List.mem_filter.mpr ⟨List.mem_of_getElem? (i := 1282) (by decide +kernel), rfl⟩
theorem co_L_worstRide : (.codeWith yL_worstRide cL_worstRide 3 (some .int) [(0, 8, 11, 33)] : Cond) ∈ ab_all := List.mem_filter.mpr ⟨List.mem_of_getElem? (i := 1283) (by decide +kernel), rfl⟩
theorem ml_L_134 : (.methodLink RL 134 yX9_worstRide : Cond) ∈ ab_all := List.mem_filter.mpr ⟨List.mem_of_getElem? (i := 1284) (by decide +kernel), rfl⟩
theorem im_X9_worstRide : (.instanceMethod yX9_worstRide : Cond) ∈ ab_all := List.mem_filter.mpr ⟨List.mem_of_getElem? (i := 1285) (by decide +kernel), rfl⟩
theorem se_X9_worstRide : (.selects RX9 yX9_worstRide yX9_worstRide : Cond) ∈ ab_all := List.mem_filter.mpr ⟨List.mem_of_getElem? (i := 1286) (by decide +kernel), rfl⟩
theorem co_X9_worstRide : (.code yX9_worstRide cX9_worstRide 4 (some .int) : Cond) ∈ ab_all := List.mem_filter.mpr ⟨List.mem_of_getElem? (i := 1287) (by decide +kernel), rfl⟩
theorem ml_X9_308 : (.methodLink RX9 308 yJ9_max_7cf53 : Cond) ∈ ab_all := List.mem_filter.mpr ⟨List.mem_of_getElem? (i := 1288) (by decide +kernel), rfl⟩
theorem cl_L_139 : (.classLink RL 139 RX10 : Cond) ∈ ab_all := List.mem_filter.mpr ⟨List.mem_of_getElem? (i := 1290) (by decide +kernel), rfl⟩
theorem it_X10 : (.instantiable RX10 47 : Cond) ∈ ab_all := List.mem_filter.mpr ⟨List.mem_of_getElem? (i := 1291) (by decide +kernel), rfl⟩
theorem ml_L_141 : (.methodLink RL 141 yX10_init : Cond) ∈ ab_all := List.mem_filter.mpr ⟨List.mem_of_getElem? (i := 1292) (by decide +kernel), rfl⟩
theorem im_X10_init : (.instanceMethod yX10_init : Cond) ∈ ab_all := List.mem_filter.mpr ⟨List.mem_of_getElem? (i := 1293) (by decide +kernel), rfl⟩
theorem co_X10_init : (.code yX10_init cX10_init 1 none : Cond) ∈ ab_all := List.mem_filter.mpr ⟨List.mem_of_getElem? (i := 1294) (by decide +kernel), rfl⟩
theorem ml_X10_1 : (.methodLink RX10 1 ⟨"java/lang/Object", "<init>", "()V"⟩ : Cond) ∈ ab_all := List.mem_filter.mpr ⟨List.mem_of_getElem? (i := 1295) (by decide +kernel), rfl⟩
theorem fl_X10_114 : (.fieldLink RX10 114 RX10 "thrown" "I" : Cond) ∈ ab_all := List.mem_filter.mpr ⟨List.mem_of_getElem? (i := 1296) (by decide +kernel), rfl⟩
theorem fl_X10_9 : (.fieldLink RX10 9 RX10 "seats" "[I" : Cond) ∈ ab_all := List.mem_filter.mpr ⟨List.mem_of_getElem? (i := 1297) (by decide +kernel), rfl⟩
theorem fl_X10_13 : (.fieldLink RX10 13 RX10 "capacities" "[I" : Cond) ∈ ab_all := List.mem_filter.mpr ⟨List.mem_of_getElem? (i := 1298) (by decide +kernel), rfl⟩
theorem fl_X10_16 : (.fieldLink RX10 16 RX10 "charges" "[I" : Cond) ∈ ab_all := List.mem_filter.mpr ⟨List.mem_of_getElem? (i := 1299) (by decide +kernel), rfl⟩
theorem fl_X10_19 : (.fieldLink RX10 19 RX10 "xs" "[I" : Cond) ∈ ab_all := List.mem_filter.mpr ⟨List.mem_of_getElem? (i := 1300) (by decide +kernel), rfl⟩
theorem fl_X10_22 : (.fieldLink RX10 22 RX10 "ys" "[I" : Cond) ∈ ab_all := List.mem_filter.mpr ⟨List.mem_of_getElem? (i := 1301) (by decide +kernel), rfl⟩
theorem fl_X10_25 : (.fieldLink RX10 25 RX10 "depotXs" "[I" : Cond) ∈ ab_all := List.mem_filter.mpr ⟨List.mem_of_getElem? (i := 1302) (by decide +kernel), rfl⟩
theorem fl_X10_28 : (.fieldLink RX10 28 RX10 "depotYs" "[I" : Cond) ∈ ab_all := List.mem_filter.mpr ⟨List.mem_of_getElem? (i := 1303) (by decide +kernel), rfl⟩
theorem fl_X10_31 : (.fieldLink RX10 31 RX10 "driven" "[I" : Cond) ∈ ab_all := List.mem_filter.mpr ⟨List.mem_of_getElem? (i := 1304) (by decide +kernel), rfl⟩
theorem fl_X10_34 : (.fieldLink RX10 34 RX10 "empty" "[I" : Cond) ∈ ab_all := List.mem_filter.mpr ⟨List.mem_of_getElem? (i := 1305) (by decide +kernel), rfl⟩
theorem fl_X10_37 : (.fieldLink RX10 37 RX10 "carried" "[I" : Cond) ∈ ab_all := List.mem_filter.mpr ⟨List.mem_of_getElem? (i := 1306) (by decide +kernel), rfl⟩
theorem fl_X10_40 : (.fieldLink RX10 40 RX10 "stopMany" "[I" : Cond) ∈ ab_all := List.mem_filter.mpr ⟨List.mem_of_getElem? (i := 1307) (by decide +kernel), rfl⟩
theorem fl_X10_43 : (.fieldLink RX10 43 RX10 "tours" "[I" : Cond) ∈ ab_all := List.mem_filter.mpr ⟨List.mem_of_getElem? (i := 1308) (by decide +kernel), rfl⟩
theorem fl_X10_46 : (.fieldLink RX10 46 RX10 "fromXs" "[I" : Cond) ∈ ab_all := List.mem_filter.mpr ⟨List.mem_of_getElem? (i := 1309) (by decide +kernel), rfl⟩
theorem fl_X10_49 : (.fieldLink RX10 49 RX10 "fromYs" "[I" : Cond) ∈ ab_all := List.mem_filter.mpr ⟨List.mem_of_getElem? (i := 1310) (by decide +kernel), rfl⟩
theorem fl_X10_52 : (.fieldLink RX10 52 RX10 "toXs" "[I" : Cond) ∈ ab_all := List.mem_filter.mpr ⟨List.mem_of_getElem? (i := 1311) (by decide +kernel), rfl⟩
theorem fl_X10_55 : (.fieldLink RX10 55 RX10 "toYs" "[I" : Cond) ∈ ab_all := List.mem_filter.mpr ⟨List.mem_of_getElem? (i := 1312) (by decide +kernel), rfl⟩
theorem fl_X10_58 : (.fieldLink RX10 58 RX10 "riders" "[I" : Cond) ∈ ab_all := List.mem_filter.mpr ⟨List.mem_of_getElem? (i := 1313) (by decide +kernel), rfl⟩
theorem fl_X10_61 : (.fieldLink RX10 61 RX10 "latest" "[I" : Cond) ∈ ab_all := List.mem_filter.mpr ⟨List.mem_of_getElem? (i := 1314) (by decide +kernel), rfl⟩
theorem fl_X10_64 : (.fieldLink RX10 64 RX10 "longest" "[I" : Cond) ∈ ab_all := List.mem_filter.mpr ⟨List.mem_of_getElem? (i := 1315) (by decide +kernel), rfl⟩
theorem fl_X10_67 : (.fieldLink RX10 67 RX10 "busOf" "[I" : Cond) ∈ ab_all := List.mem_filter.mpr ⟨List.mem_of_getElem? (i := 1316) (by decide +kernel), rfl⟩
theorem fl_X10_70 : (.fieldLink RX10 70 RX10 "picked" "[I" : Cond) ∈ ab_all := List.mem_filter.mpr ⟨List.mem_of_getElem? (i := 1317) (by decide +kernel), rfl⟩
theorem fl_X10_73 : (.fieldLink RX10 73 RX10 "dropped" "[I" : Cond) ∈ ab_all := List.mem_filter.mpr ⟨List.mem_of_getElem? (i := 1318) (by decide +kernel), rfl⟩
theorem fl_X10_76 : (.fieldLink RX10 76 RX10 "status" "[C" : Cond) ∈ ab_all := List.mem_filter.mpr ⟨List.mem_of_getElem? (i := 1319) (by decide +kernel), rfl⟩
theorem fl_X10_80 : (.fieldLink RX10 80 RX10 "reasons" "[C" : Cond) ∈ ab_all := List.mem_filter.mpr ⟨List.mem_of_getElem? (i := 1320) (by decide +kernel), rfl⟩
theorem fl_X10_83 : (.fieldLink RX10 83 RX10 "entryBuses" "[I" : Cond) ∈ ab_all := List.mem_filter.mpr ⟨List.mem_of_getElem? (i := 1321) (by decide +kernel), rfl⟩
theorem fl_X10_86 : (.fieldLink RX10 86 RX10 "entryRequests" "[I" : Cond) ∈ ab_all := List.mem_filter.mpr ⟨List.mem_of_getElem? (i := 1322) (by decide +kernel), rfl⟩
theorem fl_X10_89 : (.fieldLink RX10 89 RX10 "entryTimes" "[I" : Cond) ∈ ab_all := List.mem_filter.mpr ⟨List.mem_of_getElem? (i := 1323) (by decide +kernel), rfl⟩
theorem fl_X10_92 : (.fieldLink RX10 92 RX10 "entryDistances" "[I" : Cond) ∈ ab_all := List.mem_filter.mpr ⟨List.mem_of_getElem? (i := 1324) (by decide +kernel), rfl⟩
theorem fl_X10_117 : (.fieldLink RX10 117 RX10 "many" "I" : Cond) ∈ ab_all := List.mem_filter.mpr ⟨List.mem_of_getElem? (i := 1325) (by decide +kernel), rfl⟩
theorem fl_X10_124 : (.fieldLink RX10 124 RX10 "made" "I" : Cond) ∈ ab_all := List.mem_filter.mpr ⟨List.mem_of_getElem? (i := 1326) (by decide +kernel), rfl⟩
theorem fl_X10_202 : (.fieldLink RX10 202 RX10 "entries" "I" : Cond) ∈ ab_all := List.mem_filter.mpr ⟨List.mem_of_getElem? (i := 1327) (by decide +kernel), rfl⟩
theorem fl_X10_157 : (.fieldLink RX10 157 RX10 "time" "I" : Cond) ∈ ab_all := List.mem_filter.mpr ⟨List.mem_of_getElem? (i := 1328) (by decide +kernel), rfl⟩
theorem fl_X10_95 : (.fieldLink RX10 95 RX10 "detour" "I" : Cond) ∈ ab_all := List.mem_filter.mpr ⟨List.mem_of_getElem? (i := 1329) (by decide +kernel), rfl⟩
theorem fl_X10_99 : (.fieldLink RX10 99 RX10 "wait" "I" : Cond) ∈ ab_all := List.mem_filter.mpr ⟨List.mem_of_getElem? (i := 1330) (by decide +kernel), rfl⟩
theorem fl_X10_102 : (.fieldLink RX10 102 RX10 "tried" "[I" : Cond) ∈ ab_all := List.mem_filter.mpr ⟨List.mem_of_getElem? (i := 1331) (by decide +kernel), rfl⟩
theorem fl_X10_105 : (.fieldLink RX10 105 RX10 "times" "[I" : Cond) ∈ ab_all := List.mem_filter.mpr ⟨List.mem_of_getElem? (i := 1332) (by decide +kernel), rfl⟩
theorem fl_X10_144 : (.fieldLink RX10 144 RX10 "triedMany" "I" : Cond) ∈ ab_all := List.mem_filter.mpr ⟨List.mem_of_getElem? (i := 1333) (by decide +kernel), rfl⟩
theorem fl_X10_173 : (.fieldLink RX10 173 RX10 "planBus" "I" : Cond) ∈ ab_all := List.mem_filter.mpr ⟨List.mem_of_getElem? (i := 1334) (by decide +kernel), rfl⟩
theorem fl_X10_196 : (.fieldLink RX10 196 RX10 "planI" "I" : Cond) ∈ ab_all := List.mem_filter.mpr ⟨List.mem_of_getElem? (i := 1335) (by decide +kernel), rfl⟩
theorem fl_X10_199 : (.fieldLink RX10 199 RX10 "planJ" "I" : Cond) ∈ ab_all := List.mem_filter.mpr ⟨List.mem_of_getElem? (i := 1336) (by decide +kernel), rfl⟩
theorem fl_X10_193 : (.fieldLink RX10 193 RX10 "planAdds" "I" : Cond) ∈ ab_all := List.mem_filter.mpr ⟨List.mem_of_getElem? (i := 1337) (by decide +kernel), rfl⟩
theorem fl_X10_176 : (.fieldLink RX10 176 RX10 "worst" "I" : Cond) ∈ ab_all := List.mem_filter.mpr ⟨List.mem_of_getElem? (i := 1338) (by decide +kernel), rfl⟩
theorem fl_X10_108 : (.fieldLink RX10 108 RX10 "best" "[I" : Cond) ∈ ab_all := List.mem_filter.mpr ⟨List.mem_of_getElem? (i := 1339) (by decide +kernel), rfl⟩
theorem fl_X10_111 : (.fieldLink RX10 111 RX10 "taken" "[I" : Cond) ∈ ab_all := List.mem_filter.mpr ⟨List.mem_of_getElem? (i := 1340) (by decide +kernel), rfl⟩
theorem fl_X10_244 : (.fieldLink RX10 244 RX10 "bestLength" "I" : Cond) ∈ ab_all := List.mem_filter.mpr ⟨List.mem_of_getElem? (i := 1341) (by decide +kernel), rfl⟩
theorem fl_X10_241 : (.fieldLink RX10 241 RX10 "orderMany" "I" : Cond) ∈ ab_all := List.mem_filter.mpr ⟨List.mem_of_getElem? (i := 1342) (by decide +kernel), rfl⟩
theorem sm_1437 : (.superclass RX10 "java/lang/Object" : Cond) ∈ ab_all := List.mem_filter.mpr ⟨List.mem_of_getElem? (i := 1437) (by decide +kernel), rfl⟩
theorem ac_char : (.arrayClass FieldType.char : Cond) ∈ ab_all := List.mem_filter.mpr ⟨List.mem_of_getElem? (i := 1438) (by decide +kernel), rfl⟩
theorem ml_L_148 : (.methodLink RL 148 yX10_thrown : Cond) ∈ ab_all := List.mem_filter.mpr ⟨List.mem_of_getElem? (i := 1439) (by decide +kernel), rfl⟩
theorem im_X10_thrown : (.instanceMethod yX10_thrown : Cond) ∈ ab_all := List.mem_filter.mpr ⟨List.mem_of_getElem? (i := 1440) (by decide +kernel), rfl⟩
theorem se_X10_thrown : (.selects RX10 yX10_thrown yX10_thrown : Cond) ∈ ab_all := List.mem_filter.mpr ⟨List.mem_of_getElem? (i := 1441) (by decide +kernel), rfl⟩
theorem co_X10_thrown : (.code yX10_thrown cX10_thrown 1 (some .int) : Cond) ∈ ab_all := List.mem_filter.mpr ⟨List.mem_of_getElem? (i := 1442) (by decide +kernel), rfl⟩
theorem ml_L_147 : (.methodLink RL 147 yX10_setDetour : Cond) ∈ ab_all := List.mem_filter.mpr ⟨List.mem_of_getElem? (i := 1443) (by decide +kernel), rfl⟩
theorem im_X10_setDetour : (.instanceMethod yX10_setDetour : Cond) ∈ ab_all := List.mem_filter.mpr ⟨List.mem_of_getElem? (i := 1444) (by decide +kernel), rfl⟩
theorem se_X10_setDetour : (.selects RX10 yX10_setDetour yX10_setDetour : Cond) ∈ ab_all := List.mem_filter.mpr ⟨List.mem_of_getElem? (i := 1445) (by decide +kernel), rfl⟩
theorem co_X10_setDetour : (.code yX10_setDetour cX10_setDetour 3 (some .int) : Cond) ∈ ab_all := List.mem_filter.mpr ⟨List.mem_of_getElem? (i := 1446) (by decide +kernel), rfl⟩
theorem ml_X10_120 : (.methodLink RX10 120 yX10_isBetween : Cond) ∈ ab_all := List.mem_filter.mpr ⟨List.mem_of_getElem? (i := 1447) (by decide +kernel), rfl⟩
theorem sc_X10_isBetween : (.static yX10_isBetween : Cond) ∈ ab_all := List.mem_filter.mpr ⟨List.mem_of_getElem? (i := 1448) (by decide +kernel), rfl⟩
theorem co_X10_isBetween : (.code yX10_isBetween cX10_isBetween 3 (some .boolean) : Cond) ∈ ab_all := List.mem_filter.mpr ⟨List.mem_of_getElem? (i := 1449) (by decide +kernel), rfl⟩
theorem ml_X10_127 : (.methodLink RX10 127 yX10_fails : Cond) ∈ ab_all := List.mem_filter.mpr ⟨List.mem_of_getElem? (i := 1450) (by decide +kernel), rfl⟩
theorem im_X10_fails : (.instanceMethod yX10_fails : Cond) ∈ ab_all := List.mem_filter.mpr ⟨List.mem_of_getElem? (i := 1452) (by decide +kernel), rfl⟩
theorem co_X10_fails : (.code yX10_fails cX10_fails 2 (some .int) : Cond) ∈ ab_all := List.mem_filter.mpr ⟨List.mem_of_getElem? (i := 1453) (by decide +kernel), rfl⟩
theorem ml_L_153 : (.methodLink RL 153 yX10_setWait : Cond) ∈ ab_all := List.mem_filter.mpr ⟨List.mem_of_getElem? (i := 1454) (by decide +kernel), rfl⟩
theorem im_X10_setWait : (.instanceMethod yX10_setWait : Cond) ∈ ab_all := List.mem_filter.mpr ⟨List.mem_of_getElem? (i := 1455) (by decide +kernel), rfl⟩
theorem se_X10_setWait : (.selects RX10 yX10_setWait yX10_setWait : Cond) ∈ ab_all := List.mem_filter.mpr ⟨List.mem_of_getElem? (i := 1456) (by decide +kernel), rfl⟩
theorem co_X10_setWait : (.code yX10_setWait cX10_setWait 3 (some .int) : Cond) ∈ ab_all := List.mem_filter.mpr ⟨List.mem_of_getElem? (i := 1457) (by decide +kernel), rfl⟩
theorem ml_L_157 : (.methodLink RL 157 yX10_addBus : Cond) ∈ ab_all := List.mem_filter.mpr ⟨List.mem_of_getElem? (i := 1458) (by decide +kernel), rfl⟩
theorem im_X10_addBus : (.instanceMethod yX10_addBus : Cond) ∈ ab_all := List.mem_filter.mpr ⟨List.mem_of_getElem? (i := 1459) (by decide +kernel), rfl⟩
theorem se_X10_addBus : (.selects RX10 yX10_addBus yX10_addBus : Cond) ∈ ab_all := List.mem_filter.mpr ⟨List.mem_of_getElem? (i := 1460) (by decide +kernel), rfl⟩
theorem co_X10_addBus : (.code yX10_addBus cX10_addBus 5 (some .int) : Cond) ∈ ab_all := List.mem_filter.mpr ⟨List.mem_of_getElem? (i := 1461) (by decide +kernel), rfl⟩
theorem ml_X10_131 : (.methodLink RX10 131 yX10_isPlace : Cond) ∈ ab_all := List.mem_filter.mpr ⟨List.mem_of_getElem? (i := 1462) (by decide +kernel), rfl⟩
theorem sc_X10_isPlace : (.static yX10_isPlace : Cond) ∈ ab_all := List.mem_filter.mpr ⟨List.mem_of_getElem? (i := 1463) (by decide +kernel), rfl⟩
theorem co_X10_isPlace : (.code yX10_isPlace cX10_isPlace 2 (some .boolean) : Cond) ∈ ab_all := List.mem_filter.mpr ⟨List.mem_of_getElem? (i := 1464) (by decide +kernel), rfl⟩
theorem ml_L_161 : (.methodLink RL 161 yX10_request : Cond) ∈ ab_all := List.mem_filter.mpr ⟨List.mem_of_getElem? (i := 1465) (by decide +kernel), rfl⟩
theorem im_X10_request : (.instanceMethod yX10_request : Cond) ∈ ab_all := List.mem_filter.mpr ⟨List.mem_of_getElem? (i := 1466) (by decide +kernel), rfl⟩
theorem se_X10_request : (.selects RX10 yX10_request yX10_request : Cond) ∈ ab_all := List.mem_filter.mpr ⟨List.mem_of_getElem? (i := 1467) (by decide +kernel), rfl⟩
theorem co_X10_request : (.code yX10_request cX10_request 7 (some .int) : Cond) ∈ ab_all := List.mem_filter.mpr ⟨List.mem_of_getElem? (i := 1468) (by decide +kernel), rfl⟩
theorem ml_X10_205 : (.methodLink RX10 205 yX10_wrong : Cond) ∈ ab_all := List.mem_filter.mpr ⟨List.mem_of_getElem? (i := 1469) (by decide +kernel), rfl⟩
theorem im_X10_wrong : (.instanceMethod yX10_wrong : Cond) ∈ ab_all := List.mem_filter.mpr ⟨List.mem_of_getElem? (i := 1471) (by decide +kernel), rfl⟩
theorem co_X10_wrong : (.code yX10_wrong cX10_wrong 6 (some .int) : Cond) ∈ ab_all := List.mem_filter.mpr ⟨List.mem_of_getElem? (i := 1472) (by decide +kernel), rfl⟩
theorem ml_X10_209 : (.methodLink RX10 209 yX10_writes : Cond) ∈ ab_all := List.mem_filter.mpr ⟨List.mem_of_getElem? (i := 1473) (by decide +kernel), rfl⟩
theorem im_X10_writes : (.instanceMethod yX10_writes : Cond) ∈ ab_all := List.mem_filter.mpr ⟨List.mem_of_getElem? (i := 1475) (by decide +kernel), rfl⟩
theorem co_X10_writes : (.code yX10_writes cX10_writes 7 none : Cond) ∈ ab_all := List.mem_filter.mpr ⟨List.mem_of_getElem? (i := 1476) (by decide +kernel), rfl⟩
theorem ml_X10_153 : (.methodLink RX10 153 yX10_distance : Cond) ∈ ab_all := List.mem_filter.mpr ⟨List.mem_of_getElem? (i := 1477) (by decide +kernel), rfl⟩
theorem sc_X10_distance : (.static yX10_distance : Cond) ∈ ab_all := List.mem_filter.mpr ⟨List.mem_of_getElem? (i := 1478) (by decide +kernel), rfl⟩
theorem co_X10_distance : (.code yX10_distance cX10_distance 4 (some .int) : Cond) ∈ ab_all := List.mem_filter.mpr ⟨List.mem_of_getElem? (i := 1479) (by decide +kernel), rfl⟩
theorem ml_X10_139 : (.methodLink RX10 139 yJ9_abs_0f7a4 : Cond) ∈ ab_all := List.mem_filter.mpr ⟨List.mem_of_getElem? (i := 1480) (by decide +kernel), rfl⟩
theorem ml_X10_213 : (.methodLink RX10 213 yX10_plans : Cond) ∈ ab_all := List.mem_filter.mpr ⟨List.mem_of_getElem? (i := 1481) (by decide +kernel), rfl⟩
theorem im_X10_plans : (.instanceMethod yX10_plans : Cond) ∈ ab_all := List.mem_filter.mpr ⟨List.mem_of_getElem? (i := 1483) (by decide +kernel), rfl⟩
theorem co_X10_plans : (.code yX10_plans cX10_plans 8 none : Cond) ∈ ab_all := List.mem_filter.mpr ⟨List.mem_of_getElem? (i := 1484) (by decide +kernel), rfl⟩
theorem ml_X10_179 : (.methodLink RX10 179 yX10_lengthOf : Cond) ∈ ab_all := List.mem_filter.mpr ⟨List.mem_of_getElem? (i := 1485) (by decide +kernel), rfl⟩
theorem im_X10_lengthOf : (.instanceMethod yX10_lengthOf : Cond) ∈ ab_all := List.mem_filter.mpr ⟨List.mem_of_getElem? (i := 1487) (by decide +kernel), rfl⟩
theorem co_X10_lengthOf : (.code yX10_lengthOf cX10_lengthOf 2 (some .int) : Cond) ∈ ab_all := List.mem_filter.mpr ⟨List.mem_of_getElem? (i := 1488) (by decide +kernel), rfl⟩
theorem ml_X10_169 : (.methodLink RX10 169 yX10_copies : Cond) ∈ ab_all := List.mem_filter.mpr ⟨List.mem_of_getElem? (i := 1489) (by decide +kernel), rfl⟩
theorem im_X10_copies : (.instanceMethod yX10_copies : Cond) ∈ ab_all := List.mem_filter.mpr ⟨List.mem_of_getElem? (i := 1491) (by decide +kernel), rfl⟩
theorem co_X10_copies : (.code yX10_copies cX10_copies 3 none : Cond) ∈ ab_all := List.mem_filter.mpr ⟨List.mem_of_getElem? (i := 1492) (by decide +kernel), rfl⟩
theorem ml_X10_160 : (.methodLink RX10 160 yX10_runs : Cond) ∈ ab_all := List.mem_filter.mpr ⟨List.mem_of_getElem? (i := 1493) (by decide +kernel), rfl⟩
theorem im_X10_runs : (.instanceMethod yX10_runs : Cond) ∈ ab_all := List.mem_filter.mpr ⟨List.mem_of_getElem? (i := 1495) (by decide +kernel), rfl⟩
theorem co_X10_runs : (.code yX10_runs cX10_runs 6 (some .int) : Cond) ∈ ab_all := List.mem_filter.mpr ⟨List.mem_of_getElem? (i := 1496) (by decide +kernel), rfl⟩
theorem ml_X10_147 : (.methodLink RX10 147 yX10_stopX : Cond) ∈ ab_all := List.mem_filter.mpr ⟨List.mem_of_getElem? (i := 1497) (by decide +kernel), rfl⟩
theorem im_X10_stopX : (.instanceMethod yX10_stopX : Cond) ∈ ab_all := List.mem_filter.mpr ⟨List.mem_of_getElem? (i := 1499) (by decide +kernel), rfl⟩
theorem co_X10_stopX : (.code yX10_stopX cX10_stopX 2 (some .int) : Cond) ∈ ab_all := List.mem_filter.mpr ⟨List.mem_of_getElem? (i := 1500) (by decide +kernel), rfl⟩
theorem ml_X10_135 : (.methodLink RX10 135 yX10_isDrop : Cond) ∈ ab_all := List.mem_filter.mpr ⟨List.mem_of_getElem? (i := 1501) (by decide +kernel), rfl⟩
theorem sc_X10_isDrop : (.static yX10_isDrop : Cond) ∈ ab_all := List.mem_filter.mpr ⟨List.mem_of_getElem? (i := 1502) (by decide +kernel), rfl⟩
theorem co_X10_isDrop : (.code yX10_isDrop cX10_isDrop 1 (some .boolean) : Cond) ∈ ab_all := List.mem_filter.mpr ⟨List.mem_of_getElem? (i := 1503) (by decide +kernel), rfl⟩
theorem ml_X10_150 : (.methodLink RX10 150 yX10_stopY : Cond) ∈ ab_all := List.mem_filter.mpr ⟨List.mem_of_getElem? (i := 1504) (by decide +kernel), rfl⟩
theorem im_X10_stopY : (.instanceMethod yX10_stopY : Cond) ∈ ab_all := List.mem_filter.mpr ⟨List.mem_of_getElem? (i := 1506) (by decide +kernel), rfl⟩
theorem co_X10_stopY : (.code yX10_stopY cX10_stopY 2 (some .int) : Cond) ∈ ab_all := List.mem_filter.mpr ⟨List.mem_of_getElem? (i := 1507) (by decide +kernel), rfl⟩
theorem ml_X10_182 : (.methodLink RX10 182 yX10_puts : Cond) ∈ ab_all := List.mem_filter.mpr ⟨List.mem_of_getElem? (i := 1508) (by decide +kernel), rfl⟩
theorem im_X10_puts : (.instanceMethod yX10_puts : Cond) ∈ ab_all := List.mem_filter.mpr ⟨List.mem_of_getElem? (i := 1510) (by decide +kernel), rfl⟩
theorem co_X10_puts : (.code yX10_puts cX10_puts 6 none : Cond) ∈ ab_all := List.mem_filter.mpr ⟨List.mem_of_getElem? (i := 1511) (by decide +kernel), rfl⟩
theorem ml_X10_186 : (.methodLink RX10 186 yX10_fault : Cond) ∈ ab_all := List.mem_filter.mpr ⟨List.mem_of_getElem? (i := 1512) (by decide +kernel), rfl⟩
theorem im_X10_fault : (.instanceMethod yX10_fault : Cond) ∈ ab_all := List.mem_filter.mpr ⟨List.mem_of_getElem? (i := 1514) (by decide +kernel), rfl⟩
theorem co_X10_fault : (.code yX10_fault cX10_fault 9 (some .int) : Cond) ∈ ab_all := List.mem_filter.mpr ⟨List.mem_of_getElem? (i := 1515) (by decide +kernel), rfl⟩
theorem ml_X10_163 : (.methodLink RX10 163 yX10_aboard : Cond) ∈ ab_all := List.mem_filter.mpr ⟨List.mem_of_getElem? (i := 1516) (by decide +kernel), rfl⟩
theorem im_X10_aboard : (.instanceMethod yX10_aboard : Cond) ∈ ab_all := List.mem_filter.mpr ⟨List.mem_of_getElem? (i := 1518) (by decide +kernel), rfl⟩
theorem co_X10_aboard : (.code yX10_aboard cX10_aboard 4 (some .int) : Cond) ∈ ab_all := List.mem_filter.mpr ⟨List.mem_of_getElem? (i := 1519) (by decide +kernel), rfl⟩
theorem ml_X10_166 : (.methodLink RX10 166 yX10_pickupOf : Cond) ∈ ab_all := List.mem_filter.mpr ⟨List.mem_of_getElem? (i := 1520) (by decide +kernel), rfl⟩
theorem im_X10_pickupOf : (.instanceMethod yX10_pickupOf : Cond) ∈ ab_all := List.mem_filter.mpr ⟨List.mem_of_getElem? (i := 1522) (by decide +kernel), rfl⟩
theorem co_X10_pickupOf : (.code yX10_pickupOf cX10_pickupOf 3 (some .int) : Cond) ∈ ab_all := List.mem_filter.mpr ⟨List.mem_of_getElem? (i := 1523) (by decide +kernel), rfl⟩
theorem ml_X10_189 : (.methodLink RX10 189 yJ9_max_7cf53 : Cond) ∈ ab_all := List.mem_filter.mpr ⟨List.mem_of_getElem? (i := 1524) (by decide +kernel), rfl⟩
theorem ml_X10_216 : (.methodLink RX10 216 yX10_takes : Cond) ∈ ab_all := List.mem_filter.mpr ⟨List.mem_of_getElem? (i := 1525) (by decide +kernel), rfl⟩
theorem im_X10_takes : (.instanceMethod yX10_takes : Cond) ∈ ab_all := List.mem_filter.mpr ⟨List.mem_of_getElem? (i := 1527) (by decide +kernel), rfl⟩
theorem co_X10_takes : (.code yX10_takes cX10_takes 3 none : Cond) ∈ ab_all := List.mem_filter.mpr ⟨List.mem_of_getElem? (i := 1528) (by decide +kernel), rfl⟩
theorem ml_X10_219 : (.methodLink RX10 219 yX10_stopsAt : Cond) ∈ ab_all := List.mem_filter.mpr ⟨List.mem_of_getElem? (i := 1529) (by decide +kernel), rfl⟩
theorem im_X10_stopsAt : (.instanceMethod yX10_stopsAt : Cond) ∈ ab_all := List.mem_filter.mpr ⟨List.mem_of_getElem? (i := 1531) (by decide +kernel), rfl⟩
theorem co_X10_stopsAt : (.code yX10_stopsAt cX10_stopsAt 6 (some .int) : Cond) ∈ ab_all := List.mem_filter.mpr ⟨List.mem_of_getElem? (i := 1532) (by decide +kernel), rfl⟩
theorem ml_L_164 : (.methodLink RL 164 yX10_quote : Cond) ∈ ab_all := List.mem_filter.mpr ⟨List.mem_of_getElem? (i := 1533) (by decide +kernel), rfl⟩
theorem im_X10_quote : (.instanceMethod yX10_quote : Cond) ∈ ab_all := List.mem_filter.mpr ⟨List.mem_of_getElem? (i := 1534) (by decide +kernel), rfl⟩
theorem se_X10_quote : (.selects RX10 yX10_quote yX10_quote : Cond) ∈ ab_all := List.mem_filter.mpr ⟨List.mem_of_getElem? (i := 1535) (by decide +kernel), rfl⟩
theorem co_X10_quote : (.code yX10_quote cX10_quote 6 (some .int) : Cond) ∈ ab_all := List.mem_filter.mpr ⟨List.mem_of_getElem? (i := 1536) (by decide +kernel), rfl⟩
theorem ml_X10_222 : (.methodLink RX10 222 yX10_isRefused : Cond) ∈ ab_all := List.mem_filter.mpr ⟨List.mem_of_getElem? (i := 1537) (by decide +kernel), rfl⟩
theorem im_X10_isRefused : (.instanceMethod yX10_isRefused : Cond) ∈ ab_all := List.mem_filter.mpr ⟨List.mem_of_getElem? (i := 1539) (by decide +kernel), rfl⟩
theorem co_X10_isRefused : (.code yX10_isRefused cX10_isRefused 6 (some .boolean) : Cond) ∈ ab_all := List.mem_filter.mpr ⟨List.mem_of_getElem? (i := 1540) (by decide +kernel), rfl⟩
theorem ml_L_167 : (.methodLink RL 167 yX10_quoteByTrying : Cond) ∈ ab_all := List.mem_filter.mpr ⟨List.mem_of_getElem? (i := 1541) (by decide +kernel), rfl⟩
theorem im_X10_quoteByTrying : (.instanceMethod yX10_quoteByTrying : Cond) ∈ ab_all := List.mem_filter.mpr ⟨List.mem_of_getElem? (i := 1542) (by decide +kernel), rfl⟩
theorem se_X10_quoteByTrying : (.selects RX10 yX10_quoteByTrying yX10_quoteByTrying : Cond) ∈ ab_all := List.mem_filter.mpr ⟨List.mem_of_getElem? (i := 1543) (by decide +kernel), rfl⟩
theorem co_X10_quoteByTrying : (.code yX10_quoteByTrying cX10_quoteByTrying 6 (some .int) : Cond) ∈ ab_all := List.mem_filter.mpr ⟨List.mem_of_getElem? (i := 1544) (by decide +kernel), rfl⟩
theorem ml_X10_226 : (.methodLink RX10 226 yX10_quote : Cond) ∈ ab_all := List.mem_filter.mpr ⟨List.mem_of_getElem? (i := 1545) (by decide +kernel), rfl⟩
theorem ml_L_170 : (.methodLink RL 170 yX10_quotedBus : Cond) ∈ ab_all := List.mem_filter.mpr ⟨List.mem_of_getElem? (i := 1546) (by decide +kernel), rfl⟩
theorem im_X10_quotedBus : (.instanceMethod yX10_quotedBus : Cond) ∈ ab_all := List.mem_filter.mpr ⟨List.mem_of_getElem? (i := 1547) (by decide +kernel), rfl⟩
theorem se_X10_quotedBus : (.selects RX10 yX10_quotedBus yX10_quotedBus : Cond) ∈ ab_all := List.mem_filter.mpr ⟨List.mem_of_getElem? (i := 1548) (by decide +kernel), rfl⟩
theorem co_X10_quotedBus : (.code yX10_quotedBus cX10_quotedBus 6 (some .int) : Cond) ∈ ab_all := List.mem_filter.mpr ⟨List.mem_of_getElem? (i := 1549) (by decide +kernel), rfl⟩
theorem ml_L_173 : (.methodLink RL 173 yX10_cancel : Cond) ∈ ab_all := List.mem_filter.mpr ⟨List.mem_of_getElem? (i := 1550) (by decide +kernel), rfl⟩
theorem im_X10_cancel : (.instanceMethod yX10_cancel : Cond) ∈ ab_all := List.mem_filter.mpr ⟨List.mem_of_getElem? (i := 1551) (by decide +kernel), rfl⟩
theorem se_X10_cancel : (.selects RX10 yX10_cancel yX10_cancel : Cond) ∈ ab_all := List.mem_filter.mpr ⟨List.mem_of_getElem? (i := 1552) (by decide +kernel), rfl⟩
theorem co_X10_cancel : (.code yX10_cancel cX10_cancel 6 (some .int) : Cond) ∈ ab_all := List.mem_filter.mpr ⟨List.mem_of_getElem? (i := 1553) (by decide +kernel), rfl⟩
theorem ml_X10_229 : (.methodLink RX10 229 yX10_isRequest : Cond) ∈ ab_all := List.mem_filter.mpr ⟨List.mem_of_getElem? (i := 1554) (by decide +kernel), rfl⟩
theorem im_X10_isRequest : (.instanceMethod yX10_isRequest : Cond) ∈ ab_all := List.mem_filter.mpr ⟨List.mem_of_getElem? (i := 1556) (by decide +kernel), rfl⟩
theorem co_X10_isRequest : (.code yX10_isRequest cX10_isRequest 2 (some .boolean) : Cond) ∈ ab_all := List.mem_filter.mpr ⟨List.mem_of_getElem? (i := 1557) (by decide +kernel), rfl⟩
theorem ml_L_176 : (.methodLink RL 176 yX10_status : Cond) ∈ ab_all := List.mem_filter.mpr ⟨List.mem_of_getElem? (i := 1558) (by decide +kernel), rfl⟩
theorem im_X10_status : (.instanceMethod yX10_status : Cond) ∈ ab_all := List.mem_filter.mpr ⟨List.mem_of_getElem? (i := 1559) (by decide +kernel), rfl⟩
theorem se_X10_status : (.selects RX10 yX10_status yX10_status : Cond) ∈ ab_all := List.mem_filter.mpr ⟨List.mem_of_getElem? (i := 1560) (by decide +kernel), rfl⟩
theorem co_X10_status : (.code yX10_status cX10_status 2 (some .char) : Cond) ∈ ab_all := List.mem_filter.mpr ⟨List.mem_of_getElem? (i := 1561) (by decide +kernel), rfl⟩
theorem ml_L_179 : (.methodLink RL 179 yX10_reason : Cond) ∈ ab_all := List.mem_filter.mpr ⟨List.mem_of_getElem? (i := 1562) (by decide +kernel), rfl⟩
theorem im_X10_reason : (.instanceMethod yX10_reason : Cond) ∈ ab_all := List.mem_filter.mpr ⟨List.mem_of_getElem? (i := 1563) (by decide +kernel), rfl⟩
theorem se_X10_reason : (.selects RX10 yX10_reason yX10_reason : Cond) ∈ ab_all := List.mem_filter.mpr ⟨List.mem_of_getElem? (i := 1564) (by decide +kernel), rfl⟩
theorem co_X10_reason : (.code yX10_reason cX10_reason 2 (some .char) : Cond) ∈ ab_all := List.mem_filter.mpr ⟨List.mem_of_getElem? (i := 1565) (by decide +kernel), rfl⟩
theorem ml_L_182 : (.methodLink RL 182 yX10_busOf : Cond) ∈ ab_all := List.mem_filter.mpr ⟨List.mem_of_getElem? (i := 1566) (by decide +kernel), rfl⟩
theorem im_X10_busOf : (.instanceMethod yX10_busOf : Cond) ∈ ab_all := List.mem_filter.mpr ⟨List.mem_of_getElem? (i := 1567) (by decide +kernel), rfl⟩
theorem se_X10_busOf : (.selects RX10 yX10_busOf yX10_busOf : Cond) ∈ ab_all := List.mem_filter.mpr ⟨List.mem_of_getElem? (i := 1568) (by decide +kernel), rfl⟩
theorem co_X10_busOf : (.code yX10_busOf cX10_busOf 2 (some .int) : Cond) ∈ ab_all := List.mem_filter.mpr ⟨List.mem_of_getElem? (i := 1569) (by decide +kernel), rfl⟩
theorem ml_L_185 : (.methodLink RL 185 yX10_latestPickup : Cond) ∈ ab_all := List.mem_filter.mpr ⟨List.mem_of_getElem? (i := 1570) (by decide +kernel), rfl⟩
theorem im_X10_latestPickup : (.instanceMethod yX10_latestPickup : Cond) ∈ ab_all := List.mem_filter.mpr ⟨List.mem_of_getElem? (i := 1571) (by decide +kernel), rfl⟩
theorem se_X10_latestPickup : (.selects RX10 yX10_latestPickup yX10_latestPickup : Cond) ∈ ab_all := List.mem_filter.mpr ⟨List.mem_of_getElem? (i := 1572) (by decide +kernel), rfl⟩
theorem co_X10_latestPickup : (.code yX10_latestPickup cX10_latestPickup 2 (some .int) : Cond) ∈ ab_all := List.mem_filter.mpr ⟨List.mem_of_getElem? (i := 1573) (by decide +kernel), rfl⟩
theorem ml_L_188 : (.methodLink RL 188 yX10_longestRide : Cond) ∈ ab_all := List.mem_filter.mpr ⟨List.mem_of_getElem? (i := 1574) (by decide +kernel), rfl⟩
theorem im_X10_longestRide : (.instanceMethod yX10_longestRide : Cond) ∈ ab_all := List.mem_filter.mpr ⟨List.mem_of_getElem? (i := 1575) (by decide +kernel), rfl⟩
theorem se_X10_longestRide : (.selects RX10 yX10_longestRide yX10_longestRide : Cond) ∈ ab_all := List.mem_filter.mpr ⟨List.mem_of_getElem? (i := 1576) (by decide +kernel), rfl⟩
theorem co_X10_longestRide : (.code yX10_longestRide cX10_longestRide 2 (some .int) : Cond) ∈ ab_all := List.mem_filter.mpr ⟨List.mem_of_getElem? (i := 1577) (by decide +kernel), rfl⟩
theorem ml_L_191 : (.methodLink RL 191 yX10_pickupTime : Cond) ∈ ab_all := List.mem_filter.mpr ⟨List.mem_of_getElem? (i := 1578) (by decide +kernel), rfl⟩
theorem im_X10_pickupTime : (.instanceMethod yX10_pickupTime : Cond) ∈ ab_all := List.mem_filter.mpr ⟨List.mem_of_getElem? (i := 1579) (by decide +kernel), rfl⟩
theorem se_X10_pickupTime : (.selects RX10 yX10_pickupTime yX10_pickupTime : Cond) ∈ ab_all := List.mem_filter.mpr ⟨List.mem_of_getElem? (i := 1580) (by decide +kernel), rfl⟩
theorem co_X10_pickupTime : (.code yX10_pickupTime cX10_pickupTime 2 (some .int) : Cond) ∈ ab_all := List.mem_filter.mpr ⟨List.mem_of_getElem? (i := 1581) (by decide +kernel), rfl⟩
theorem ml_X10_232 : (.methodLink RX10 232 yX10_timeOf : Cond) ∈ ab_all := List.mem_filter.mpr ⟨List.mem_of_getElem? (i := 1582) (by decide +kernel), rfl⟩
theorem im_X10_timeOf : (.instanceMethod yX10_timeOf : Cond) ∈ ab_all := List.mem_filter.mpr ⟨List.mem_of_getElem? (i := 1584) (by decide +kernel), rfl⟩
theorem co_X10_timeOf : (.code yX10_timeOf cX10_timeOf 4 (some .int) : Cond) ∈ ab_all := List.mem_filter.mpr ⟨List.mem_of_getElem? (i := 1585) (by decide +kernel), rfl⟩
theorem ml_L_194 : (.methodLink RL 194 yX10_dropTime : Cond) ∈ ab_all := List.mem_filter.mpr ⟨List.mem_of_getElem? (i := 1586) (by decide +kernel), rfl⟩
theorem im_X10_dropTime : (.instanceMethod yX10_dropTime : Cond) ∈ ab_all := List.mem_filter.mpr ⟨List.mem_of_getElem? (i := 1587) (by decide +kernel), rfl⟩
theorem se_X10_dropTime : (.selects RX10 yX10_dropTime yX10_dropTime : Cond) ∈ ab_all := List.mem_filter.mpr ⟨List.mem_of_getElem? (i := 1588) (by decide +kernel), rfl⟩
theorem co_X10_dropTime : (.code yX10_dropTime cX10_dropTime 2 (some .int) : Cond) ∈ ab_all := List.mem_filter.mpr ⟨List.mem_of_getElem? (i := 1589) (by decide +kernel), rfl⟩
theorem ml_L_198 : (.methodLink RL 198 yX10_requests : Cond) ∈ ab_all := List.mem_filter.mpr ⟨List.mem_of_getElem? (i := 1590) (by decide +kernel), rfl⟩
theorem im_X10_requests : (.instanceMethod yX10_requests : Cond) ∈ ab_all := List.mem_filter.mpr ⟨List.mem_of_getElem? (i := 1591) (by decide +kernel), rfl⟩
theorem se_X10_requests : (.selects RX10 yX10_requests yX10_requests : Cond) ∈ ab_all := List.mem_filter.mpr ⟨List.mem_of_getElem? (i := 1592) (by decide +kernel), rfl⟩
theorem co_X10_requests : (.code yX10_requests cX10_requests 1 (some .int) : Cond) ∈ ab_all := List.mem_filter.mpr ⟨List.mem_of_getElem? (i := 1593) (by decide +kernel), rfl⟩
theorem ml_L_201 : (.methodLink RL 201 yX10_stops : Cond) ∈ ab_all := List.mem_filter.mpr ⟨List.mem_of_getElem? (i := 1594) (by decide +kernel), rfl⟩
theorem im_X10_stops : (.instanceMethod yX10_stops : Cond) ∈ ab_all := List.mem_filter.mpr ⟨List.mem_of_getElem? (i := 1595) (by decide +kernel), rfl⟩
theorem se_X10_stops : (.selects RX10 yX10_stops yX10_stops : Cond) ∈ ab_all := List.mem_filter.mpr ⟨List.mem_of_getElem? (i := 1596) (by decide +kernel), rfl⟩
theorem co_X10_stops : (.code yX10_stops cX10_stops 2 (some .int) : Cond) ∈ ab_all := List.mem_filter.mpr ⟨List.mem_of_getElem? (i := 1597) (by decide +kernel), rfl⟩
theorem ml_X10_235 : (.methodLink RX10 235 yX10_isBus : Cond) ∈ ab_all := List.mem_filter.mpr ⟨List.mem_of_getElem? (i := 1598) (by decide +kernel), rfl⟩
theorem im_X10_isBus : (.instanceMethod yX10_isBus : Cond) ∈ ab_all := List.mem_filter.mpr ⟨List.mem_of_getElem? (i := 1600) (by decide +kernel), rfl⟩
theorem co_X10_isBus : (.code yX10_isBus cX10_isBus 2 (some .boolean) : Cond) ∈ ab_all := List.mem_filter.mpr ⟨List.mem_of_getElem? (i := 1601) (by decide +kernel), rfl⟩
theorem ml_L_205 : (.methodLink RL 205 yX10_stopRequest : Cond) ∈ ab_all := List.mem_filter.mpr ⟨List.mem_of_getElem? (i := 1602) (by decide +kernel), rfl⟩
theorem im_X10_stopRequest : (.instanceMethod yX10_stopRequest : Cond) ∈ ab_all := List.mem_filter.mpr ⟨List.mem_of_getElem? (i := 1603) (by decide +kernel), rfl⟩
theorem se_X10_stopRequest : (.selects RX10 yX10_stopRequest yX10_stopRequest : Cond) ∈ ab_all := List.mem_filter.mpr ⟨List.mem_of_getElem? (i := 1604) (by decide +kernel), rfl⟩
theorem co_X10_stopRequest : (.code yX10_stopRequest cX10_stopRequest 3 (some .int) : Cond) ∈ ab_all := List.mem_filter.mpr ⟨List.mem_of_getElem? (i := 1605) (by decide +kernel), rfl⟩
theorem ml_X10_238 : (.methodLink RX10 238 yX10_isNoStop : Cond) ∈ ab_all := List.mem_filter.mpr ⟨List.mem_of_getElem? (i := 1606) (by decide +kernel), rfl⟩
theorem im_X10_isNoStop : (.instanceMethod yX10_isNoStop : Cond) ∈ ab_all := List.mem_filter.mpr ⟨List.mem_of_getElem? (i := 1608) (by decide +kernel), rfl⟩
theorem co_X10_isNoStop : (.code yX10_isNoStop cX10_isNoStop 3 (some .boolean) : Cond) ∈ ab_all := List.mem_filter.mpr ⟨List.mem_of_getElem? (i := 1609) (by decide +kernel), rfl⟩
theorem ml_L_208 : (.methodLink RL 208 yX10_isPickup : Cond) ∈ ab_all := List.mem_filter.mpr ⟨List.mem_of_getElem? (i := 1610) (by decide +kernel), rfl⟩
theorem im_X10_isPickup : (.instanceMethod yX10_isPickup : Cond) ∈ ab_all := List.mem_filter.mpr ⟨List.mem_of_getElem? (i := 1611) (by decide +kernel), rfl⟩
theorem se_X10_isPickup : (.selects RX10 yX10_isPickup yX10_isPickup : Cond) ∈ ab_all := List.mem_filter.mpr ⟨List.mem_of_getElem? (i := 1612) (by decide +kernel), rfl⟩
theorem co_X10_isPickup : (.code yX10_isPickup cX10_isPickup 3 (some .boolean) : Cond) ∈ ab_all := List.mem_filter.mpr ⟨List.mem_of_getElem? (i := 1613) (by decide +kernel), rfl⟩
theorem ml_L_211 : (.methodLink RL 211 yX10_stopTime : Cond) ∈ ab_all := List.mem_filter.mpr ⟨List.mem_of_getElem? (i := 1614) (by decide +kernel), rfl⟩
theorem im_X10_stopTime : (.instanceMethod yX10_stopTime : Cond) ∈ ab_all := List.mem_filter.mpr ⟨List.mem_of_getElem? (i := 1615) (by decide +kernel), rfl⟩
theorem se_X10_stopTime : (.selects RX10 yX10_stopTime yX10_stopTime : Cond) ∈ ab_all := List.mem_filter.mpr ⟨List.mem_of_getElem? (i := 1616) (by decide +kernel), rfl⟩
theorem co_X10_stopTime : (.code yX10_stopTime cX10_stopTime 3 (some .int) : Cond) ∈ ab_all := List.mem_filter.mpr ⟨List.mem_of_getElem? (i := 1617) (by decide +kernel), rfl⟩
theorem ml_L_214 : (.methodLink RL 214 yX10_length : Cond) ∈ ab_all := List.mem_filter.mpr ⟨List.mem_of_getElem? (i := 1618) (by decide +kernel), rfl⟩
theorem im_X10_length : (.instanceMethod yX10_length : Cond) ∈ ab_all := List.mem_filter.mpr ⟨List.mem_of_getElem? (i := 1619) (by decide +kernel), rfl⟩
theorem se_X10_length : (.selects RX10 yX10_length yX10_length : Cond) ∈ ab_all := List.mem_filter.mpr ⟨List.mem_of_getElem? (i := 1620) (by decide +kernel), rfl⟩
theorem co_X10_length : (.code yX10_length cX10_length 2 (some .int) : Cond) ∈ ab_all := List.mem_filter.mpr ⟨List.mem_of_getElem? (i := 1621) (by decide +kernel), rfl⟩
theorem ml_L_217 : (.methodLink RL 217 yX10_bestLength : Cond) ∈ ab_all := List.mem_filter.mpr ⟨List.mem_of_getElem? (i := 1622) (by decide +kernel), rfl⟩
theorem im_X10_bestLength : (.instanceMethod yX10_bestLength : Cond) ∈ ab_all := List.mem_filter.mpr ⟨List.mem_of_getElem? (i := 1623) (by decide +kernel), rfl⟩
theorem se_X10_bestLength : (.selects RX10 yX10_bestLength yX10_bestLength : Cond) ∈ ab_all := List.mem_filter.mpr ⟨List.mem_of_getElem? (i := 1624) (by decide +kernel), rfl⟩
theorem co_X10_bestLength : (.code yX10_bestLength cX10_bestLength 2 (some .int) : Cond) ∈ ab_all := List.mem_filter.mpr ⟨List.mem_of_getElem? (i := 1625) (by decide +kernel), rfl⟩
theorem ml_X10_257 : (.methodLink RX10 257 yX10_findsBest : Cond) ∈ ab_all := List.mem_filter.mpr ⟨List.mem_of_getElem? (i := 1626) (by decide +kernel), rfl⟩
theorem im_X10_findsBest : (.instanceMethod yX10_findsBest : Cond) ∈ ab_all := List.mem_filter.mpr ⟨List.mem_of_getElem? (i := 1628) (by decide +kernel), rfl⟩
theorem co_X10_findsBest : (.code yX10_findsBest cX10_findsBest 2 none : Cond) ∈ ab_all := List.mem_filter.mpr ⟨List.mem_of_getElem? (i := 1629) (by decide +kernel), rfl⟩
theorem ml_X10_253 : (.methodLink RX10 253 yX10_orders : Cond) ∈ ab_all := List.mem_filter.mpr ⟨List.mem_of_getElem? (i := 1630) (by decide +kernel), rfl⟩
theorem im_X10_orders : (.instanceMethod yX10_orders : Cond) ∈ ab_all := List.mem_filter.mpr ⟨List.mem_of_getElem? (i := 1632) (by decide +kernel), rfl⟩
theorem co_X10_orders : (.code yX10_orders cX10_orders 5 none : Cond) ∈ ab_all := List.mem_filter.mpr ⟨List.mem_of_getElem? (i := 1633) (by decide +kernel), rfl⟩
theorem ml_X10_247 : (.methodLink RX10 247 yX10_isOnTour : Cond) ∈ ab_all := List.mem_filter.mpr ⟨List.mem_of_getElem? (i := 1634) (by decide +kernel), rfl⟩
theorem im_X10_isOnTour : (.instanceMethod yX10_isOnTour : Cond) ∈ ab_all := List.mem_filter.mpr ⟨List.mem_of_getElem? (i := 1636) (by decide +kernel), rfl⟩
theorem co_X10_isOnTour : (.code yX10_isOnTour cX10_isOnTour 4 (some .boolean) : Cond) ∈ ab_all := List.mem_filter.mpr ⟨List.mem_of_getElem? (i := 1637) (by decide +kernel), rfl⟩
theorem ml_X10_250 : (.methodLink RX10 250 yX10_isTaken : Cond) ∈ ab_all := List.mem_filter.mpr ⟨List.mem_of_getElem? (i := 1638) (by decide +kernel), rfl⟩
theorem im_X10_isTaken : (.instanceMethod yX10_isTaken : Cond) ∈ ab_all := List.mem_filter.mpr ⟨List.mem_of_getElem? (i := 1640) (by decide +kernel), rfl⟩
theorem co_X10_isTaken : (.code yX10_isTaken cX10_isTaken 4 (some .boolean) : Cond) ∈ ab_all := List.mem_filter.mpr ⟨List.mem_of_getElem? (i := 1641) (by decide +kernel), rfl⟩
theorem ml_L_220 : (.methodLink RL 220 yX10_bestLengthByTrying : Cond) ∈ ab_all := List.mem_filter.mpr ⟨List.mem_of_getElem? (i := 1642) (by decide +kernel), rfl⟩
theorem im_X10_bestLengthByTrying : (.instanceMethod yX10_bestLengthByTrying : Cond) ∈ ab_all := List.mem_filter.mpr ⟨List.mem_of_getElem? (i := 1643) (by decide +kernel), rfl⟩
theorem se_X10_bestLengthByTrying : (.selects RX10 yX10_bestLengthByTrying yX10_bestLengthByTrying : Cond) ∈ ab_all := List.mem_filter.mpr ⟨List.mem_of_getElem? (i := 1644) (by decide +kernel), rfl⟩
theorem co_X10_bestLengthByTrying : (.code yX10_bestLengthByTrying cX10_bestLengthByTrying 2 (some .int) : Cond) ∈ ab_all := List.mem_filter.mpr ⟨List.mem_of_getElem? (i := 1645) (by decide +kernel), rfl⟩
theorem ml_X10_260 : (.methodLink RX10 260 yX10_bestLength : Cond) ∈ ab_all := List.mem_filter.mpr ⟨List.mem_of_getElem? (i := 1646) (by decide +kernel), rfl⟩
theorem ml_L_223 : (.methodLink RL 223 yX10_improve : Cond) ∈ ab_all := List.mem_filter.mpr ⟨List.mem_of_getElem? (i := 1647) (by decide +kernel), rfl⟩
theorem im_X10_improve : (.instanceMethod yX10_improve : Cond) ∈ ab_all := List.mem_filter.mpr ⟨List.mem_of_getElem? (i := 1648) (by decide +kernel), rfl⟩
theorem se_X10_improve : (.selects RX10 yX10_improve yX10_improve : Cond) ∈ ab_all := List.mem_filter.mpr ⟨List.mem_of_getElem? (i := 1649) (by decide +kernel), rfl⟩
theorem co_X10_improve : (.code yX10_improve cX10_improve 4 (some .int) : Cond) ∈ ab_all := List.mem_filter.mpr ⟨List.mem_of_getElem? (i := 1650) (by decide +kernel), rfl⟩
theorem ml_L_226 : (.methodLink RL 226 yX10_pass : Cond) ∈ ab_all := List.mem_filter.mpr ⟨List.mem_of_getElem? (i := 1651) (by decide +kernel), rfl⟩
theorem im_X10_pass : (.instanceMethod yX10_pass : Cond) ∈ ab_all := List.mem_filter.mpr ⟨List.mem_of_getElem? (i := 1652) (by decide +kernel), rfl⟩
theorem se_X10_pass : (.selects RX10 yX10_pass yX10_pass : Cond) ∈ ab_all := List.mem_filter.mpr ⟨List.mem_of_getElem? (i := 1653) (by decide +kernel), rfl⟩
theorem co_X10_pass : (.code yX10_pass cX10_pass 5 (some .int) : Cond) ∈ ab_all := List.mem_filter.mpr ⟨List.mem_of_getElem? (i := 1654) (by decide +kernel), rfl⟩
theorem ml_X10_269 : (.methodLink RX10 269 yX10_minute : Cond) ∈ ab_all := List.mem_filter.mpr ⟨List.mem_of_getElem? (i := 1655) (by decide +kernel), rfl⟩
theorem im_X10_minute : (.instanceMethod yX10_minute : Cond) ∈ ab_all := List.mem_filter.mpr ⟨List.mem_of_getElem? (i := 1657) (by decide +kernel), rfl⟩
theorem co_X10_minute : (.code yX10_minute cX10_minute 2 (some .int) : Cond) ∈ ab_all := List.mem_filter.mpr ⟨List.mem_of_getElem? (i := 1658) (by decide +kernel), rfl⟩
theorem ml_X10_262 : (.methodLink RX10 262 yX10_drives : Cond) ∈ ab_all := List.mem_filter.mpr ⟨List.mem_of_getElem? (i := 1659) (by decide +kernel), rfl⟩
theorem im_X10_drives : (.instanceMethod yX10_drives : Cond) ∈ ab_all := List.mem_filter.mpr ⟨List.mem_of_getElem? (i := 1661) (by decide +kernel), rfl⟩
theorem co_X10_drives : (.code yX10_drives cX10_drives 5 none : Cond) ∈ ab_all := List.mem_filter.mpr ⟨List.mem_of_getElem? (i := 1662) (by decide +kernel), rfl⟩
theorem ml_X10_266 : (.methodLink RX10 266 yJ9_min_7cf53 : Cond) ∈ ab_all := List.mem_filter.mpr ⟨List.mem_of_getElem? (i := 1663) (by decide +kernel), rfl⟩
theorem ml_L_230 : (.methodLink RL 230 yX10_now : Cond) ∈ ab_all := List.mem_filter.mpr ⟨List.mem_of_getElem? (i := 1664) (by decide +kernel), rfl⟩
theorem im_X10_now : (.instanceMethod yX10_now : Cond) ∈ ab_all := List.mem_filter.mpr ⟨List.mem_of_getElem? (i := 1665) (by decide +kernel), rfl⟩
theorem se_X10_now : (.selects RX10 yX10_now yX10_now : Cond) ∈ ab_all := List.mem_filter.mpr ⟨List.mem_of_getElem? (i := 1666) (by decide +kernel), rfl⟩
theorem co_X10_now : (.code yX10_now cX10_now 1 (some .int) : Cond) ∈ ab_all := List.mem_filter.mpr ⟨List.mem_of_getElem? (i := 1667) (by decide +kernel), rfl⟩
theorem ml_L_233 : (.methodLink RL 233 yX10_x : Cond) ∈ ab_all := List.mem_filter.mpr ⟨List.mem_of_getElem? (i := 1668) (by decide +kernel), rfl⟩
theorem im_X10_x : (.instanceMethod yX10_x : Cond) ∈ ab_all := List.mem_filter.mpr ⟨List.mem_of_getElem? (i := 1669) (by decide +kernel), rfl⟩
theorem se_X10_x : (.selects RX10 yX10_x yX10_x : Cond) ∈ ab_all := List.mem_filter.mpr ⟨List.mem_of_getElem? (i := 1670) (by decide +kernel), rfl⟩
theorem co_X10_x : (.code yX10_x cX10_x 2 (some .int) : Cond) ∈ ab_all := List.mem_filter.mpr ⟨List.mem_of_getElem? (i := 1671) (by decide +kernel), rfl⟩
theorem ml_L_236 : (.methodLink RL 236 yX10_y : Cond) ∈ ab_all := List.mem_filter.mpr ⟨List.mem_of_getElem? (i := 1672) (by decide +kernel), rfl⟩
theorem im_X10_y : (.instanceMethod yX10_y : Cond) ∈ ab_all := List.mem_filter.mpr ⟨List.mem_of_getElem? (i := 1673) (by decide +kernel), rfl⟩
theorem se_X10_y : (.selects RX10 yX10_y yX10_y : Cond) ∈ ab_all := List.mem_filter.mpr ⟨List.mem_of_getElem? (i := 1674) (by decide +kernel), rfl⟩
theorem co_X10_y : (.code yX10_y cX10_y 2 (some .int) : Cond) ∈ ab_all := List.mem_filter.mpr ⟨List.mem_of_getElem? (i := 1675) (by decide +kernel), rfl⟩
theorem ml_L_239 : (.methodLink RL 239 yX10_charge : Cond) ∈ ab_all := List.mem_filter.mpr ⟨List.mem_of_getElem? (i := 1676) (by decide +kernel), rfl⟩
theorem im_X10_charge : (.instanceMethod yX10_charge : Cond) ∈ ab_all := List.mem_filter.mpr ⟨List.mem_of_getElem? (i := 1677) (by decide +kernel), rfl⟩
theorem se_X10_charge : (.selects RX10 yX10_charge yX10_charge : Cond) ∈ ab_all := List.mem_filter.mpr ⟨List.mem_of_getElem? (i := 1678) (by decide +kernel), rfl⟩
theorem co_X10_charge : (.code yX10_charge cX10_charge 2 (some .int) : Cond) ∈ ab_all := List.mem_filter.mpr ⟨List.mem_of_getElem? (i := 1679) (by decide +kernel), rfl⟩
theorem ml_L_242 : (.methodLink RL 242 yX10_onBoard : Cond) ∈ ab_all := List.mem_filter.mpr ⟨List.mem_of_getElem? (i := 1680) (by decide +kernel), rfl⟩
theorem im_X10_onBoard : (.instanceMethod yX10_onBoard : Cond) ∈ ab_all := List.mem_filter.mpr ⟨List.mem_of_getElem? (i := 1681) (by decide +kernel), rfl⟩
theorem se_X10_onBoard : (.selects RX10 yX10_onBoard yX10_onBoard : Cond) ∈ ab_all := List.mem_filter.mpr ⟨List.mem_of_getElem? (i := 1682) (by decide +kernel), rfl⟩
theorem co_X10_onBoard : (.code yX10_onBoard cX10_onBoard 2 (some .int) : Cond) ∈ ab_all := List.mem_filter.mpr ⟨List.mem_of_getElem? (i := 1683) (by decide +kernel), rfl⟩
theorem ml_L_245 : (.methodLink RL 245 yX10_driven : Cond) ∈ ab_all := List.mem_filter.mpr ⟨List.mem_of_getElem? (i := 1684) (by decide +kernel), rfl⟩
theorem im_X10_driven : (.instanceMethod yX10_driven : Cond) ∈ ab_all := List.mem_filter.mpr ⟨List.mem_of_getElem? (i := 1685) (by decide +kernel), rfl⟩
theorem se_X10_driven : (.selects RX10 yX10_driven yX10_driven : Cond) ∈ ab_all := List.mem_filter.mpr ⟨List.mem_of_getElem? (i := 1686) (by decide +kernel), rfl⟩
theorem co_X10_driven : (.code yX10_driven cX10_driven 2 (some .int) : Cond) ∈ ab_all := List.mem_filter.mpr ⟨List.mem_of_getElem? (i := 1687) (by decide +kernel), rfl⟩
theorem ml_L_248 : (.methodLink RL 248 yX10_empty : Cond) ∈ ab_all := List.mem_filter.mpr ⟨List.mem_of_getElem? (i := 1688) (by decide +kernel), rfl⟩
theorem im_X10_empty : (.instanceMethod yX10_empty : Cond) ∈ ab_all := List.mem_filter.mpr ⟨List.mem_of_getElem? (i := 1689) (by decide +kernel), rfl⟩
theorem se_X10_empty : (.selects RX10 yX10_empty yX10_empty : Cond) ∈ ab_all := List.mem_filter.mpr ⟨List.mem_of_getElem? (i := 1690) (by decide +kernel), rfl⟩
theorem co_X10_empty : (.code yX10_empty cX10_empty 2 (some .int) : Cond) ∈ ab_all := List.mem_filter.mpr ⟨List.mem_of_getElem? (i := 1691) (by decide +kernel), rfl⟩
theorem ml_L_251 : (.methodLink RL 251 yX10_emptyByJournal : Cond) ∈ ab_all := List.mem_filter.mpr ⟨List.mem_of_getElem? (i := 1692) (by decide +kernel), rfl⟩
theorem im_X10_emptyByJournal : (.instanceMethod yX10_emptyByJournal : Cond) ∈ ab_all := List.mem_filter.mpr ⟨List.mem_of_getElem? (i := 1693) (by decide +kernel), rfl⟩
theorem se_X10_emptyByJournal : (.selects RX10 yX10_emptyByJournal yX10_emptyByJournal : Cond) ∈ ab_all := List.mem_filter.mpr ⟨List.mem_of_getElem? (i := 1694) (by decide +kernel), rfl⟩
theorem co_X10_emptyByJournal : (.code yX10_emptyByJournal cX10_emptyByJournal 2 (some .int) : Cond) ∈ ab_all := List.mem_filter.mpr ⟨List.mem_of_getElem? (i := 1695) (by decide +kernel), rfl⟩
theorem ml_X10_272 : (.methodLink RX10 272 yX10_empty : Cond) ∈ ab_all := List.mem_filter.mpr ⟨List.mem_of_getElem? (i := 1696) (by decide +kernel), rfl⟩
theorem ml_L_255 : (.methodLink RL 255 yX10_occupancy : Cond) ∈ ab_all := List.mem_filter.mpr ⟨List.mem_of_getElem? (i := 1697) (by decide +kernel), rfl⟩
theorem im_X10_occupancy : (.instanceMethod yX10_occupancy : Cond) ∈ ab_all := List.mem_filter.mpr ⟨List.mem_of_getElem? (i := 1698) (by decide +kernel), rfl⟩
theorem se_X10_occupancy : (.selects RX10 yX10_occupancy yX10_occupancy : Cond) ∈ ab_all := List.mem_filter.mpr ⟨List.mem_of_getElem? (i := 1699) (by decide +kernel), rfl⟩
theorem co_X10_occupancy : (.code yX10_occupancy cX10_occupancy 2 (some .float) : Cond) ∈ ab_all := List.mem_filter.mpr ⟨List.mem_of_getElem? (i := 1700) (by decide +kernel), rfl⟩
theorem ml_L_259 : (.methodLink RL 259 yX10_entries : Cond) ∈ ab_all := List.mem_filter.mpr ⟨List.mem_of_getElem? (i := 1701) (by decide +kernel), rfl⟩
theorem im_X10_entries : (.instanceMethod yX10_entries : Cond) ∈ ab_all := List.mem_filter.mpr ⟨List.mem_of_getElem? (i := 1702) (by decide +kernel), rfl⟩
theorem se_X10_entries : (.selects RX10 yX10_entries yX10_entries : Cond) ∈ ab_all := List.mem_filter.mpr ⟨List.mem_of_getElem? (i := 1703) (by decide +kernel), rfl⟩
theorem co_X10_entries : (.code yX10_entries cX10_entries 1 (some .int) : Cond) ∈ ab_all := List.mem_filter.mpr ⟨List.mem_of_getElem? (i := 1704) (by decide +kernel), rfl⟩
theorem ml_L_262 : (.methodLink RL 262 yX10_entryBus : Cond) ∈ ab_all := List.mem_filter.mpr ⟨List.mem_of_getElem? (i := 1705) (by decide +kernel), rfl⟩
theorem im_X10_entryBus : (.instanceMethod yX10_entryBus : Cond) ∈ ab_all := List.mem_filter.mpr ⟨List.mem_of_getElem? (i := 1706) (by decide +kernel), rfl⟩
theorem se_X10_entryBus : (.selects RX10 yX10_entryBus yX10_entryBus : Cond) ∈ ab_all := List.mem_filter.mpr ⟨List.mem_of_getElem? (i := 1707) (by decide +kernel), rfl⟩
theorem co_X10_entryBus : (.code yX10_entryBus cX10_entryBus 2 (some .int) : Cond) ∈ ab_all := List.mem_filter.mpr ⟨List.mem_of_getElem? (i := 1708) (by decide +kernel), rfl⟩
theorem ml_X10_274 : (.methodLink RX10 274 yX10_isEntry : Cond) ∈ ab_all := List.mem_filter.mpr ⟨List.mem_of_getElem? (i := 1709) (by decide +kernel), rfl⟩
theorem im_X10_isEntry : (.instanceMethod yX10_isEntry : Cond) ∈ ab_all := List.mem_filter.mpr ⟨List.mem_of_getElem? (i := 1711) (by decide +kernel), rfl⟩
theorem co_X10_isEntry : (.code yX10_isEntry cX10_isEntry 2 (some .boolean) : Cond) ∈ ab_all := List.mem_filter.mpr ⟨List.mem_of_getElem? (i := 1712) (by decide +kernel), rfl⟩
theorem ml_L_265 : (.methodLink RL 265 yX10_entryRequest : Cond) ∈ ab_all := List.mem_filter.mpr ⟨List.mem_of_getElem? (i := 1713) (by decide +kernel), rfl⟩
theorem im_X10_entryRequest : (.instanceMethod yX10_entryRequest : Cond) ∈ ab_all := List.mem_filter.mpr ⟨List.mem_of_getElem? (i := 1714) (by decide +kernel), rfl⟩
theorem se_X10_entryRequest : (.selects RX10 yX10_entryRequest yX10_entryRequest : Cond) ∈ ab_all := List.mem_filter.mpr ⟨List.mem_of_getElem? (i := 1715) (by decide +kernel), rfl⟩
theorem co_X10_entryRequest : (.code yX10_entryRequest cX10_entryRequest 2 (some .int) : Cond) ∈ ab_all := List.mem_filter.mpr ⟨List.mem_of_getElem? (i := 1716) (by decide +kernel), rfl⟩
theorem ml_L_268 : (.methodLink RL 268 yX10_entryTime : Cond) ∈ ab_all := List.mem_filter.mpr ⟨List.mem_of_getElem? (i := 1717) (by decide +kernel), rfl⟩
theorem im_X10_entryTime : (.instanceMethod yX10_entryTime : Cond) ∈ ab_all := List.mem_filter.mpr ⟨List.mem_of_getElem? (i := 1718) (by decide +kernel), rfl⟩
theorem se_X10_entryTime : (.selects RX10 yX10_entryTime yX10_entryTime : Cond) ∈ ab_all := List.mem_filter.mpr ⟨List.mem_of_getElem? (i := 1719) (by decide +kernel), rfl⟩
theorem co_X10_entryTime : (.code yX10_entryTime cX10_entryTime 2 (some .int) : Cond) ∈ ab_all := List.mem_filter.mpr ⟨List.mem_of_getElem? (i := 1720) (by decide +kernel), rfl⟩
theorem ml_L_271 : (.methodLink RL 271 yX10_entryDistance : Cond) ∈ ab_all := List.mem_filter.mpr ⟨List.mem_of_getElem? (i := 1721) (by decide +kernel), rfl⟩
theorem im_X10_entryDistance : (.instanceMethod yX10_entryDistance : Cond) ∈ ab_all := List.mem_filter.mpr ⟨List.mem_of_getElem? (i := 1722) (by decide +kernel), rfl⟩
theorem se_X10_entryDistance : (.selects RX10 yX10_entryDistance yX10_entryDistance : Cond) ∈ ab_all := List.mem_filter.mpr ⟨List.mem_of_getElem? (i := 1723) (by decide +kernel), rfl⟩
theorem co_X10_entryDistance : (.code yX10_entryDistance cX10_entryDistance 2 (some .int) : Cond) ∈ ab_all := List.mem_filter.mpr ⟨List.mem_of_getElem? (i := 1724) (by decide +kernel), rfl⟩
theorem ml_L_275 : (.methodLink RL 275 yX10_worstRide : Cond) ∈ ab_all := List.mem_filter.mpr ⟨List.mem_of_getElem? (i := 1725) (by decide +kernel), rfl⟩
theorem im_X10_worstRide : (.instanceMethod yX10_worstRide : Cond) ∈ ab_all := List.mem_filter.mpr ⟨List.mem_of_getElem? (i := 1726) (by decide +kernel), rfl⟩
theorem se_X10_worstRide : (.selects RX10 yX10_worstRide yX10_worstRide : Cond) ∈ ab_all := List.mem_filter.mpr ⟨List.mem_of_getElem? (i := 1727) (by decide +kernel), rfl⟩
theorem co_X10_worstRide : (.code yX10_worstRide cX10_worstRide 3 (some .int) : Cond) ∈ ab_all := List.mem_filter.mpr ⟨List.mem_of_getElem? (i := 1728) (by decide +kernel), rfl⟩
theorem ac_long : (.arrayClass FieldType.long : Cond) ∈ ab_all := List.mem_filter.mpr ⟨List.mem_of_getElem? (i := 1729) (by decide +kernel), rfl⟩
theorem ac_double : (.arrayClass FieldType.double : Cond) ∈ ab_all := List.mem_filter.mpr ⟨List.mem_of_getElem? (i := 1730) (by decide +kernel), rfl⟩
theorem sm_1731 : (.sameMethod "java/lang/Throwable" "java/lang/Throwable" "fillInStackTrace" "(I)Ljava/lang/Throwable;" : Cond) ∈ ab_all := List.mem_filter.mpr ⟨List.mem_of_getElem? (i := 1731) (by decide +kernel), rfl⟩
theorem ca_1732 : (.castable RX9 "java/lang/Object" : Cond) ∈ ab_nest := List.mem_filter.mpr ⟨List.mem_of_getElem? (i := 1732) (by decide +kernel), rfl⟩
theorem ca_1733 : (.castable RJx4a65c "java/lang/Object" : Cond) ∈ ab_nest := List.mem_filter.mpr ⟨List.mem_of_getElem? (i := 1733) (by decide +kernel), rfl⟩
theorem ca_1734 : (.castable RX0 "java/lang/Object" : Cond) ∈ ab_nest := List.mem_filter.mpr ⟨List.mem_of_getElem? (i := 1734) (by decide +kernel), rfl⟩
theorem ca_1735 : (.castable RX6 "java/lang/Object" : Cond) ∈ ab_nest := List.mem_filter.mpr ⟨List.mem_of_getElem? (i := 1735) (by decide +kernel), rfl⟩
theorem ca_1736 : (.castable RX4 "java/lang/Object" : Cond) ∈ ab_nest := List.mem_filter.mpr ⟨List.mem_of_getElem? (i := 1736) (by decide +kernel), rfl⟩
theorem ca_1737 : (.castable RX3 "java/lang/Object" : Cond) ∈ ab_nest := List.mem_filter.mpr ⟨List.mem_of_getElem? (i := 1737) (by decide +kernel), rfl⟩
theorem ca_1738 : (.castable RX8 "java/lang/Object" : Cond) ∈ ab_nest := List.mem_filter.mpr ⟨List.mem_of_getElem? (i := 1738) (by decide +kernel), rfl⟩
theorem ca_1739 : (.castable RX2 "java/lang/Object" : Cond) ∈ ab_nest := List.mem_filter.mpr ⟨List.mem_of_getElem? (i := 1739) (by decide +kernel), rfl⟩
theorem ca_1740 : (.castable RX7 "java/lang/Object" : Cond) ∈ ab_nest := List.mem_filter.mpr ⟨List.mem_of_getElem? (i := 1740) (by decide +kernel), rfl⟩
theorem ca_1741 : (.castable RX5 "java/lang/Object" : Cond) ∈ ab_nest := List.mem_filter.mpr ⟨List.mem_of_getElem? (i := 1741) (by decide +kernel), rfl⟩
theorem ca_1742 : (.castable RX10 "java/lang/Object" : Cond) ∈ ab_nest := List.mem_filter.mpr ⟨List.mem_of_getElem? (i := 1742) (by decide +kernel), rfl⟩
theorem ca_1743 : (.castable "java/lang/IllegalArgumentException" "java/lang/Object" : Cond) ∈ ab_nest := List.mem_filter.mpr ⟨List.mem_of_getElem? (i := 1743) (by decide +kernel), rfl⟩
theorem ca_1744 : (.castable "java/lang/IllegalStateException" "java/lang/Object" : Cond) ∈ ab_nest := List.mem_filter.mpr ⟨List.mem_of_getElem? (i := 1744) (by decide +kernel), rfl⟩
theorem ca_1745 : (.castable RX1 "java/lang/Object" : Cond) ∈ ab_nest := List.mem_filter.mpr ⟨List.mem_of_getElem? (i := 1745) (by decide +kernel), rfl⟩
theorem ca_1746 : (.castable "java/lang/UnsupportedOperationException" "java/lang/Object" : Cond) ∈ ab_nest := List.mem_filter.mpr ⟨List.mem_of_getElem? (i := 1746) (by decide +kernel), rfl⟩
theorem ca_1747 : (.castable "java/util/NoSuchElementException" "java/lang/Object" : Cond) ∈ ab_nest := List.mem_filter.mpr ⟨List.mem_of_getElem? (i := 1747) (by decide +kernel), rfl⟩
theorem ca_1748 : (.castable "java/lang/IndexOutOfBoundsException" "java/lang/Object" : Cond) ∈ ab_nest := List.mem_filter.mpr ⟨List.mem_of_getElem? (i := 1748) (by decide +kernel), rfl⟩
theorem ca_1749 : (.castable "java/lang/Throwable" "java/lang/Object" : Cond) ∈ ab_nest := List.mem_filter.mpr ⟨List.mem_of_getElem? (i := 1749) (by decide +kernel), rfl⟩
theorem ca_1750 : (.castable RJ0 "java/lang/Object" : Cond) ∈ ab_nest := List.mem_filter.mpr ⟨List.mem_of_getElem? (i := 1750) (by decide +kernel), rfl⟩
theorem sm_1751 : (.sameMethod "[Ljava/lang/Object;" "java/lang/Object" "getClass" "()Ljava/lang/Class;" : Cond) ∈ ab_all := List.mem_filter.mpr ⟨List.mem_of_getElem? (i := 1751) (by decide +kernel), rfl⟩
theorem dc_1753 : (.declares ⟨"java/lang/Object", "getClass", "()Ljava/lang/Class;"⟩ : Cond) ∈ ab_nest := List.mem_filter.mpr ⟨List.mem_of_getElem? (i := 1753) (by decide +kernel), rfl⟩
theorem ca_1754 : (.castable "[I" "java/lang/Object" : Cond) ∈ ab_nest := List.mem_filter.mpr ⟨List.mem_of_getElem? (i := 1754) (by decide +kernel), rfl⟩
theorem ca_1755 : (.castable "[B" "java/lang/Object" : Cond) ∈ ab_nest := List.mem_filter.mpr ⟨List.mem_of_getElem? (i := 1755) (by decide +kernel), rfl⟩
theorem ca_1756 : (.castable "[Ljava/lang/Object;" "java/lang/Object" : Cond) ∈ ab_nest := List.mem_filter.mpr ⟨List.mem_of_getElem? (i := 1756) (by decide +kernel), rfl⟩
theorem ca_1757 : (.castable "[C" "java/lang/Object" : Cond) ∈ ab_nest := List.mem_filter.mpr ⟨List.mem_of_getElem? (i := 1757) (by decide +kernel), rfl⟩
theorem ca_1758 : (.castable "[J" "java/lang/Object" : Cond) ∈ ab_nest := List.mem_filter.mpr ⟨List.mem_of_getElem? (i := 1758) (by decide +kernel), rfl⟩
theorem ca_1759 : (.castable "[D" "java/lang/Object" : Cond) ∈ ab_nest := List.mem_filter.mpr ⟨List.mem_of_getElem? (i := 1759) (by decide +kernel), rfl⟩
theorem iw_X0 : ∀ w ∈ u_ws RX0 TX0 2, w ∈ ab_all := by
  intro w hw
  have h := goodIn_r (big := lw_tbl) (u_ws RX0 TX0 2) [222, 224] (by decide +kernel) (by decide +kernel)
  have hg : (u_ws RX0 TX0 2).all goodWord = true := by decide +kernel
  exact List.mem_filter.mpr ⟨(h w hw).1, List.all_eq_true.mp hg w hw⟩
theorem iw_X1 : ∀ w ∈ u_ws RX1 TX1 13, w ∈ ab_all := by
  intro w hw
  have h := goodIn_r (big := lw_tbl) (u_ws RX1 TX1 13) [586, 588, 590, 592, 594, 596, 598, 600, 602, 604, 606, 608, 610] (by decide +kernel) (by decide +kernel)
  have hg : (u_ws RX1 TX1 13).all goodWord = true := by decide +kernel
  exact List.mem_filter.mpr ⟨(h w hw).1, List.all_eq_true.mp hg w hw⟩
theorem iw_X2 : ∀ w ∈ u_ws RX2 TX2 8, w ∈ ab_all := by
  intro w hw
  have h := goodIn_r (big := lw_tbl) (u_ws RX2 TX2 8) [329, 331, 333, 335, 337, 339, 341, 343] (by decide +kernel) (by decide +kernel)
  have hg : (u_ws RX2 TX2 8).all goodWord = true := by decide +kernel
  exact List.mem_filter.mpr ⟨(h w hw).1, List.all_eq_true.mp hg w hw⟩
theorem iw_X3 : ∀ w ∈ u_ws RX3 TX3 2, w ∈ ab_all := by
  intro w hw
  have h := goodIn_r (big := lw_tbl) (u_ws RX3 TX3 2) [259, 261] (by decide +kernel) (by decide +kernel)
  have hg : (u_ws RX3 TX3 2).all goodWord = true := by decide +kernel
  exact List.mem_filter.mpr ⟨(h w hw).1, List.all_eq_true.mp hg w hw⟩
theorem iw_X4 : ∀ w ∈ u_ws RX4 TX4 5, w ∈ ab_all := by
  intro w hw
  have h := goodIn_r (big := lw_tbl) (u_ws RX4 TX4 5) [239, 241, 243, 245, 247] (by decide +kernel) (by decide +kernel)
  have hg : (u_ws RX4 TX4 5).all goodWord = true := by decide +kernel
  exact List.mem_filter.mpr ⟨(h w hw).1, List.all_eq_true.mp hg w hw⟩
theorem iw_X5 : ∀ w ∈ u_ws RX5 TX5 5, w ∈ ab_all := by
  intro w hw
  have h := goodIn_r (big := lw_tbl) (u_ws RX5 TX5 5) [360, 362, 364, 366, 368] (by decide +kernel) (by decide +kernel)
  have hg : (u_ws RX5 TX5 5).all goodWord = true := by decide +kernel
  exact List.mem_filter.mpr ⟨(h w hw).1, List.all_eq_true.mp hg w hw⟩
theorem iw_X6 : ∀ w ∈ u_ws RX6 TX6 13, w ∈ ab_all := by
  intro w hw
  have h := goodIn_r (big := lw_tbl) (u_ws RX6 TX6 13) [192, 194, 196, 198, 200, 202, 204, 206, 208, 210, 212, 214, 216] (by decide +kernel) (by decide +kernel)
  have hg : (u_ws RX6 TX6 13).all goodWord = true := by decide +kernel
  exact List.mem_filter.mpr ⟨(h w hw).1, List.all_eq_true.mp hg w hw⟩
theorem iw_X7 : ∀ w ∈ u_ws RX7 TX7 2, w ∈ ab_all := by
  intro w hw
  have h := goodIn_r (big := lw_tbl) (u_ws RX7 TX7 2) [312, 314] (by decide +kernel) (by decide +kernel)
  have hg : (u_ws RX7 TX7 2).all goodWord = true := by decide +kernel
  exact List.mem_filter.mpr ⟨(h w hw).1, List.all_eq_true.mp hg w hw⟩
theorem iw_X8 : ∀ w ∈ u_ws RX8 TX8 7, w ∈ ab_all := by
  intro w hw
  have h := goodIn_r (big := lw_tbl) (u_ws RX8 TX8 7) [279, 281, 283, 285, 287, 289, 291] (by decide +kernel) (by decide +kernel)
  have hg : (u_ws RX8 TX8 7).all goodWord = true := by decide +kernel
  exact List.mem_filter.mpr ⟨(h w hw).1, List.all_eq_true.mp hg w hw⟩
theorem iw_X9 : ∀ w ∈ u_ws RX9 TX9 9, w ∈ ab_all := by
  intro w hw
  have h := goodIn_r (big := lw_tbl) (u_ws RX9 TX9 9) [380, 382, 384, 386, 388, 390, 392, 394, 396] (by decide +kernel) (by decide +kernel)
  have hg : (u_ws RX9 TX9 9).all goodWord = true := by decide +kernel
  exact List.mem_filter.mpr ⟨(h w hw).1, List.all_eq_true.mp hg w hw⟩
theorem iw_X10 : ∀ w ∈ u_ws RX10 TX10 47, w ∈ ab_all := by
  intro w hw
  have h := goodIn_r (big := lw_tbl) (u_ws RX10 TX10 47) [1343, 1345, 1347, 1349, 1351, 1353, 1355, 1357, 1359, 1361, 1363, 1365, 1367, 1369, 1371, 1373, 1375, 1377, 1379, 1381, 1383, 1385, 1387, 1389, 1391, 1393, 1395, 1397, 1399, 1401, 1403, 1405, 1407, 1409, 1411, 1413, 1415, 1417, 1419, 1421, 1423, 1425, 1427, 1429, 1431, 1433, 1435] (by decide +kernel) (by decide +kernel)
  have hg : (u_ws RX10 TX10 47).all goodWord = true := by decide +kernel
  exact List.mem_filter.mpr ⟨(h w hw).1, List.all_eq_true.mp hg w hw⟩
theorem iw_Jx4a65c : ∀ w ∈ u_ws RJx4a65c TJx4a65c 3, w ∈ ab_all := by
  intro w hw
  have h := goodIn_r (big := lw_tbl) (u_ws RJx4a65c TJx4a65c 3) [148, 144, 146] (by decide +kernel) (by decide +kernel)
  have hg : (u_ws RJx4a65c TJx4a65c 3).all goodWord = true := by decide +kernel
  exact List.mem_filter.mpr ⟨(h w hw).1, List.all_eq_true.mp hg w hw⟩
abbrev vwCl : List vw_C := [(RJx4a65c, TJx4a65c, 3), (RX0, TX0, 2), (RX1, TX1, 13), (RX2, TX2, 8), (RX3, TX3, 2), (RX4, TX4, 5), (RX5, TX5, 5), (RX6, TX6, 13), (RX7, TX7, 2), (RX8, TX8, 7), (RX9, TX9, 9), (RX10, TX10, 47)]
