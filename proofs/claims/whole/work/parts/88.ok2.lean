set_option maxRecDepth 100000 in
theorem ok_UpRiver_isSkipper : am_ok M_UpRiver_isSkipper = true := by decide +kernel
set_option maxRecDepth 100000 in
theorem ok_UpRiver_skipperArrival : am_ok M_UpRiver_skipperArrival = true := by decide +kernel
set_option maxRecDepth 100000 in
theorem ok_Skipper_begin : am_ok M_Skipper_begin = true := by decide +kernel
set_option maxRecDepth 100000 in
theorem ok_Skipper_act : am_ok M_Skipper_act = true := by decide +kernel
set_option maxRecDepth 100000 in
theorem ok_Skipper_isShoalAhead : am_ok M_Skipper_isShoalAhead = true := by decide +kernel
set_option maxRecDepth 100000 in
theorem ok_Skipper_isOtherBoardBetter : am_ok M_Skipper_isOtherBoardBetter = true := by decide +kernel
set_option maxRecDepth 100000 in
theorem ok_UpRiver_best : am_ok M_UpRiver_best = true := by decide +kernel
set_option maxRecDepth 100000 in
theorem ok_UpRiver_loses : am_ok M_UpRiver_loses = true := by decide +kernel
set_option maxRecDepth 100000 in
theorem ok_UpRiver_narrow : am_ok M_UpRiver_narrow = true := by decide +kernel
set_option maxRecDepth 100000 in
theorem ok_UpRiver_lead : am_ok M_UpRiver_lead = true := by decide +kernel
set_option maxRecDepth 100000 in
theorem ok_UpRiver_areChances : am_ok M_UpRiver_areChances = true := by decide +kernel
set_option maxRecDepth 100000 in
theorem ok_UpRiver_shallowChances : am_ok M_UpRiver_shallowChances = true := by decide +kernel
set_option maxRecDepth 100000 in
theorem ok_UpRiver_commonDivisor : am_ok M_UpRiver_commonDivisor = true := by decide +kernel
set_option maxRecDepth 100000 in
theorem ok_UpRiver_near : am_ok M_UpRiver_near = true := by decide +kernel
set_option maxRecDepth 100000 in
theorem ok_UpRiver_logged : am_ok M_UpRiver_logged = true := by decide +kernel
set_option maxRecDepth 100000 in
theorem ok_Log_add : am_ok M_Log_add = true := by decide +kernel
set_option maxRecDepth 100000 in
theorem ok_UpRiver_lost : am_ok M_UpRiver_lost = true := by decide +kernel
set_option maxRecDepth 100000 in
theorem ok_UpRiver_stretchArrival : am_ok M_UpRiver_stretchArrival = true := by decide +kernel
set_option maxRecDepth 100000 in
theorem ok_UpRiver_swing : am_ok M_UpRiver_swing = true := by decide +kernel
set_option maxRecDepth 100000 in
theorem ok_Swings_add : am_ok M_Swings_add = true := by decide +kernel
set_option maxRecDepth 100000 in
theorem ok_UpRiver_judged : am_ok M_UpRiver_judged = true := by decide +kernel
set_option maxRecDepth 100000 in
theorem ok_Swings_rightBy : am_ok M_Swings_rightBy = true := by decide +kernel
set_option maxRecDepth 100000 in
theorem ok_Swings_meanAhead : am_ok M_Swings_meanAhead = true := by decide +kernel
set_option maxRecDepth 100000 in
theorem ok_UpRiver_judge : am_ok M_UpRiver_judge = true := by decide +kernel
set_option maxRecDepth 100000 in
theorem ok_UpRiver_barge : am_ok M_UpRiver_barge = true := by decide +kernel
set_option maxRecDepth 100000 in
theorem ok_UpRiver_keep : am_ok M_UpRiver_keep = true := by decide +kernel
set_option maxRecDepth 100000 in
theorem ok_Voyage_take : am_ok M_Voyage_take = true := by decide +kernel
set_option maxRecDepth 100000 in
theorem ok_Log_take : am_ok M_Log_take = true := by decide +kernel
set_option maxRecDepth 100000 in
theorem ok_Swings_take : am_ok M_Swings_take = true := by decide +kernel
set_option maxRecDepth 100000 in
theorem ok_UpRiver_back : am_ok M_UpRiver_back = true := by decide +kernel
set_option maxRecDepth 100000 in
theorem ok_UpRiver_sheet : am_ok M_UpRiver_sheet = true := by decide +kernel
set_option maxRecDepth 100000 in
theorem ok_UpRiver_isSheet : am_ok M_UpRiver_isSheet = true := by decide +kernel
set_option maxRecDepth 100000 in
theorem ok_Sheet_isKind : am_ok M_Sheet_isKind = true := by decide +kernel
set_option maxRecDepth 100000 in
theorem ok_Sheet_renew : am_ok M_Sheet_renew = true := by decide +kernel
set_option maxRecDepth 100000 in
theorem ok_UpRiver_lay : am_ok M_UpRiver_lay = true := by decide +kernel
set_option maxRecDepth 100000 in
theorem ok_Sheet_put : am_ok M_Sheet_put = true := by decide +kernel
set_option maxRecDepth 100000 in
theorem ok_Sheet_hasCell : am_ok M_Sheet_hasCell = true := by decide +kernel
set_option maxRecDepth 100000 in
theorem ok_UpRiver_read : am_ok M_UpRiver_read = true := by decide +kernel
set_option maxRecDepth 100000 in
theorem ok_Sheet_faultAs : am_ok M_Sheet_faultAs = true := by decide +kernel
set_option maxRecDepth 100000 in
theorem ok_Sheet_cellAt : am_ok M_Sheet_cellAt = true := by decide +kernel
set_option maxRecDepth 100000 in
theorem ok_UpRiver_torn : am_ok M_UpRiver_torn = true := by decide +kernel
set_option maxRecDepth 100000 in
theorem ok_UpRiver_count : am_ok M_UpRiver_count = true := by decide +kernel
set_option maxRecDepth 100000 in
theorem ok_UpRiver_howMany : am_ok M_UpRiver_howMany = true := by decide +kernel
set_option maxRecDepth 100000 in
theorem ok_UpRiverModel_init : am_ok M_UpRiverModel_init = true := by decide +kernel
