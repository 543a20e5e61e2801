set_option maxRecDepth 100000 in
theorem ok_UpRiverModel_isUp : am_ok M_UpRiverModel_isUp = true := by decide +kernel
set_option maxRecDepth 100000 in
theorem ok_UpRiverModel_top : am_ok M_UpRiverModel_top = true := by decide +kernel
set_option maxRecDepth 100000 in
theorem ok_UpRiverModel_isFloating : am_ok M_UpRiverModel_isFloating = true := by decide +kernel
set_option maxRecDepth 100000 in
theorem ok_UpRiverModel_sails : am_ok M_UpRiverModel_sails = true := by decide +kernel
set_option maxRecDepth 100000 in
theorem ok_UpRiverModel_isThere : am_ok M_UpRiverModel_isThere = true := by decide +kernel
set_option maxRecDepth 100000 in
theorem ok_UpRiverModel_goesThere : am_ok M_UpRiverModel_goesThere = true := by decide +kernel
set_option maxRecDepth 100000 in
theorem ok_UpRiverModel_turn : am_ok M_UpRiverModel_turn = true := by decide +kernel
set_option maxRecDepth 100000 in
theorem ok_UpRiverModel_turns : am_ok M_UpRiverModel_turns = true := by decide +kernel
set_option maxRecDepth 100000 in
theorem ok_UpRiverModel_anchor : am_ok M_UpRiverModel_anchor = true := by decide +kernel
set_option maxRecDepth 100000 in
theorem ok_UpRiverModel_now : am_ok M_UpRiverModel_now = true := by decide +kernel
set_option maxRecDepth 100000 in
theorem ok_UpRiverModel_flag : am_ok M_UpRiverModel_flag = true := by decide +kernel
set_option maxRecDepth 100000 in
theorem ok_UpRiverModel_set : am_ok M_UpRiverModel_set = true := by decide +kernel
set_option maxRecDepth 100000 in
theorem ok_UpRiverModel_soonest : am_ok M_UpRiverModel_soonest = true := by decide +kernel
set_option maxRecDepth 100000 in
theorem ok_UpRiverModel_soonestNow : am_ok M_UpRiverModel_soonestNow = true := by decide +kernel
set_option maxRecDepth 100000 in
theorem ok_UpRiverModel_soonestFrom : am_ok M_UpRiverModel_soonestFrom = true := by decide +kernel
set_option maxRecDepth 100000 in
theorem ok_UpRiverModel_clears : am_ok M_UpRiverModel_clears = true := by decide +kernel
set_option maxRecDepth 100000 in
theorem ok_UpRiverModel_marks : am_ok M_UpRiverModel_marks = true := by decide +kernel
set_option maxRecDepth 100000 in
theorem ok_UpRiverModel_spot : am_ok M_UpRiverModel_spot = true := by decide +kernel
set_option maxRecDepth 100000 in
theorem ok_UpRiverModel_spreads : am_ok M_UpRiverModel_spreads = true := by decide +kernel
set_option maxRecDepth 100000 in
theorem ok_UpRiverModel_goesOn : am_ok M_UpRiverModel_goesOn = true := by decide +kernel
set_option maxRecDepth 100000 in
theorem ok_UpRiverModel_comesThere : am_ok M_UpRiverModel_comesThere = true := by decide +kernel
set_option maxRecDepth 100000 in
theorem ok_UpRiverModel_less : am_ok M_UpRiverModel_less = true := by decide +kernel
set_option maxRecDepth 100000 in
theorem ok_UpRiverModel_only : am_ok M_UpRiverModel_only = true := by decide +kernel
set_option maxRecDepth 100000 in
theorem ok_UpRiverModel_first : am_ok M_UpRiverModel_first = true := by decide +kernel
set_option maxRecDepth 100000 in
theorem ok_UpRiverModel_leadsBy : am_ok M_UpRiverModel_leadsBy = true := by decide +kernel
set_option maxRecDepth 100000 in
theorem ok_UpRiverModel_from : am_ok M_UpRiverModel_from = true := by decide +kernel
set_option maxRecDepth 100000 in
theorem ok_UpRiverModel_startIn : am_ok M_UpRiverModel_startIn = true := by decide +kernel
set_option maxRecDepth 100000 in
theorem ok_UpRiverModel_start : am_ok M_UpRiverModel_start = true := by decide +kernel
set_option maxRecDepth 100000 in
theorem ok_UpRiverModel_layStarts : am_ok M_UpRiverModel_layStarts = true := by decide +kernel
set_option maxRecDepth 100000 in
theorem ok_UpRiverModel_upFrom : am_ok M_UpRiverModel_upFrom = true := by decide +kernel
set_option maxRecDepth 100000 in
theorem ok_UpRiverModel_upThere : am_ok M_UpRiverModel_upThere = true := by decide +kernel
set_option maxRecDepth 100000 in
theorem ok_UpRiverModel_days : am_ok M_UpRiverModel_days = true := by decide +kernel
set_option maxRecDepth 100000 in
theorem ok_UpRiverModel_skipper : am_ok M_UpRiverModel_skipper = true := by decide +kernel
set_option maxRecDepth 100000 in
theorem ok_UpRiverModel_isSkipper : am_ok M_UpRiverModel_isSkipper = true := by decide +kernel
set_option maxRecDepth 100000 in
theorem ok_UpRiverModel_skips : am_ok M_UpRiverModel_skips = true := by decide +kernel
set_option maxRecDepth 100000 in
theorem ok_UpRiverModel_hisBegin : am_ok M_UpRiverModel_hisBegin = true := by decide +kernel
set_option maxRecDepth 100000 in
theorem ok_UpRiverModel_hisStep : am_ok M_UpRiverModel_hisStep = true := by decide +kernel
set_option maxRecDepth 100000 in
theorem ok_UpRiverModel_hisMove : am_ok M_UpRiverModel_hisMove = true := by decide +kernel
set_option maxRecDepth 100000 in
theorem ok_UpRiverModel_meets : am_ok M_UpRiverModel_meets = true := by decide +kernel
set_option maxRecDepth 100000 in
theorem ok_UpRiverModel_best : am_ok M_UpRiverModel_best = true := by decide +kernel
