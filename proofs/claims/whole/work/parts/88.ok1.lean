set_option maxRecDepth 100000 in
theorem ok_River_hasReach : am_ok M_River_hasReach = true := by decide +kernel
set_option maxRecDepth 100000 in
theorem ok_UpRiver_asInt : am_ok M_UpRiver_asInt = true := by decide +kernel
set_option maxRecDepth 100000 in
theorem ok_River_wayOn : am_ok M_River_wayOn = true := by decide +kernel
set_option maxRecDepth 100000 in
theorem ok_UpRiver_flow : am_ok M_UpRiver_flow = true := by decide +kernel
set_option maxRecDepth 100000 in
theorem ok_UpRiver_isMinute : am_ok M_UpRiver_isMinute = true := by decide +kernel
set_option maxRecDepth 100000 in
theorem ok_River_flowAt : am_ok M_River_flowAt = true := by decide +kernel
set_option maxRecDepth 100000 in
theorem ok_River_phaseIn : am_ok M_River_phaseIn = true := by decide +kernel
set_option maxRecDepth 100000 in
theorem ok_JMath_floorDiv : am_ok M_JMath_floorDiv = true := by decide +kernel
set_option maxRecDepth 100000 in
theorem ok_JMath_floorMod : am_ok M_JMath_floorMod = true := by decide +kernel
set_option maxRecDepth 100000 in
theorem ok_UpRiver_afloat : am_ok M_UpRiver_afloat = true := by decide +kernel
set_option maxRecDepth 100000 in
theorem ok_UpRiver_isLane : am_ok M_UpRiver_isLane = true := by decide +kernel
set_option maxRecDepth 100000 in
theorem ok_UpRiver_isYesOrNo : am_ok M_UpRiver_isYesOrNo = true := by decide +kernel
set_option maxRecDepth 100000 in
theorem ok_River_carries : am_ok M_River_carries = true := by decide +kernel
set_option maxRecDepth 100000 in
theorem ok_River_waterAt : am_ok M_River_waterAt = true := by decide +kernel
set_option maxRecDepth 100000 in
theorem ok_UpRiver_sail : am_ok M_UpRiver_sail = true := by decide +kernel
set_option maxRecDepth 100000 in
theorem ok_Boat_isUp : am_ok M_Boat_isUp = true := by decide +kernel
set_option maxRecDepth 100000 in
theorem ok_River_top : am_ok M_River_top = true := by decide +kernel
set_option maxRecDepth 100000 in
theorem ok_Boat_trySail : am_ok M_Boat_trySail = true := by decide +kernel
set_option maxRecDepth 100000 in
theorem ok_Boat_isAfloat : am_ok M_Boat_isAfloat = true := by decide +kernel
set_option maxRecDepth 100000 in
theorem ok_Boat_laneAhead : am_ok M_Boat_laneAhead = true := by decide +kernel
set_option maxRecDepth 100000 in
theorem ok_UpRiver_turn : am_ok M_UpRiver_turn = true := by decide +kernel
set_option maxRecDepth 100000 in
theorem ok_Boat_tryTurn : am_ok M_Boat_tryTurn = true := by decide +kernel
set_option maxRecDepth 100000 in
theorem ok_UpRiver_anchor : am_ok M_UpRiver_anchor = true := by decide +kernel
set_option maxRecDepth 100000 in
theorem ok_UpRiver_now : am_ok M_UpRiver_now = true := by decide +kernel
set_option maxRecDepth 100000 in
theorem ok_UpRiver_set : am_ok M_UpRiver_set = true := by decide +kernel
set_option maxRecDepth 100000 in
theorem ok_UpRiver_soonest : am_ok M_UpRiver_soonest = true := by decide +kernel
set_option maxRecDepth 100000 in
theorem ok_UpRiver_arrivalOf : am_ok M_UpRiver_arrivalOf = true := by decide +kernel
set_option maxRecDepth 100000 in
theorem ok_Search_begin : am_ok M_Search_begin = true := by decide +kernel
set_option maxRecDepth 100000 in
theorem ok_Search_keepTo : am_ok M_Search_keepTo = true := by decide +kernel
set_option maxRecDepth 100000 in
theorem ok_JMath_min : am_ok M_JMath_min = true := by decide +kernel
set_option maxRecDepth 100000 in
theorem ok_Search_add : am_ok M_Search_add = true := by decide +kernel
set_option maxRecDepth 100000 in
theorem ok_Search_serves : am_ok M_Search_serves = true := by decide +kernel
set_option maxRecDepth 100000 in
theorem ok_Search_indexOf : am_ok M_Search_indexOf = true := by decide +kernel
set_option maxRecDepth 100000 in
theorem ok_Search_arrive : am_ok M_Search_arrive = true := by decide +kernel
set_option maxRecDepth 100000 in
theorem ok_Search_leave : am_ok M_Search_leave = true := by decide +kernel
set_option maxRecDepth 100000 in
theorem ok_River_bitsAfloatIn : am_ok M_River_bitsAfloatIn = true := by decide +kernel
set_option maxRecDepth 100000 in
theorem ok_Search_noteUp : am_ok M_Search_noteUp = true := by decide +kernel
set_option maxRecDepth 100000 in
theorem ok_Search_bitsFrom : am_ok M_Search_bitsFrom = true := by decide +kernel
set_option maxRecDepth 100000 in
theorem ok_Search_moved : am_ok M_Search_moved = true := by decide +kernel
set_option maxRecDepth 100000 in
theorem ok_Search_land : am_ok M_Search_land = true := by decide +kernel
set_option maxRecDepth 100000 in
theorem ok_UpRiver_only : am_ok M_UpRiver_only = true := by decide +kernel
set_option maxRecDepth 100000 in
theorem ok_UpRiver_first : am_ok M_UpRiver_first = true := by decide +kernel
set_option maxRecDepth 100000 in
theorem ok_Boat_take : am_ok M_Boat_take = true := by decide +kernel
set_option maxRecDepth 100000 in
theorem ok_UpRiver_trialArrival : am_ok M_UpRiver_trialArrival = true := by decide +kernel
set_option maxRecDepth 100000 in
theorem ok_UpRiver_from : am_ok M_UpRiver_from = true := by decide +kernel
set_option maxRecDepth 100000 in
theorem ok_UpRiver_startArrival : am_ok M_UpRiver_startArrival = true := by decide +kernel
set_option maxRecDepth 100000 in
theorem ok_UpRiver_start : am_ok M_UpRiver_start = true := by decide +kernel
set_option maxRecDepth 100000 in
theorem ok_UpRiver_days : am_ok M_UpRiver_days = true := by decide +kernel
set_option maxRecDepth 100000 in
theorem ok_UpRiver_skipper : am_ok M_UpRiver_skipper = true := by decide +kernel
