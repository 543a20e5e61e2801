set_option maxRecDepth 100000 in
theorem ok_UpRiverModel_firstDraft : am_ok M_UpRiverModel_firstDraft = true := by decide +kernel
set_option maxRecDepth 100000 in
theorem ok_UpRiverModel_in : am_ok M_UpRiverModel_in = true := by decide +kernel
set_option maxRecDepth 100000 in
theorem ok_UpRiverModel_keepDraft : am_ok M_UpRiverModel_keepDraft = true := by decide +kernel
set_option maxRecDepth 100000 in
theorem ok_UpRiverModel_feed : am_ok M_UpRiverModel_feed = true := by decide +kernel
set_option maxRecDepth 100000 in
theorem ok_UpRiverModel_end : am_ok M_UpRiverModel_end = true := by decide +kernel
set_option maxRecDepth 100000 in
theorem ok_UpRiverModel_text : am_ok M_UpRiverModel_text = true := by decide +kernel
set_option maxRecDepth 100000 in
theorem ok_UpRiverModel_next : am_ok M_UpRiverModel_next = true := by decide +kernel
set_option maxRecDepth 100000 in
theorem ok_UpRiverModel_look : am_ok M_UpRiverModel_look = true := by decide +kernel
set_option maxRecDepth 100000 in
theorem ok_UpRiverModel_needs : am_ok M_UpRiverModel_needs = true := by decide +kernel
set_option maxRecDepth 100000 in
theorem ok_UpRiverModel_readLine : am_ok M_UpRiverModel_readLine = true := by decide +kernel
set_option maxRecDepth 100000 in
theorem ok_UpRiverModel_nameNow : am_ok M_UpRiverModel_nameNow = true := by decide +kernel
set_option maxRecDepth 100000 in
theorem ok_UpRiverModel_is : am_ok M_UpRiverModel_is = true := by decide +kernel
set_option maxRecDepth 100000 in
theorem ok_UpRiverModel_ruleNow : am_ok M_UpRiverModel_ruleNow = true := by decide +kernel
set_option maxRecDepth 100000 in
theorem ok_UpRiverModel_readLineOf : am_ok M_UpRiverModel_readLineOf = true := by decide +kernel
set_option maxRecDepth 100000 in
theorem ok_UpRiverModel_lowest : am_ok M_UpRiverModel_lowest = true := by decide +kernel
set_option maxRecDepth 100000 in
theorem ok_UpRiverModel_highest : am_ok M_UpRiverModel_highest = true := by decide +kernel
set_option maxRecDepth 100000 in
theorem ok_UpRiverModel_readNumber : am_ok M_UpRiverModel_readNumber = true := by decide +kernel
set_option maxRecDepth 100000 in
theorem ok_UpRiverModel_isNumber : am_ok M_UpRiverModel_isNumber = true := by decide +kernel
set_option maxRecDepth 100000 in
theorem ok_UpRiverModel_readReach : am_ok M_UpRiverModel_readReach = true := by decide +kernel
set_option maxRecDepth 100000 in
theorem ok_UpRiverModel_once : am_ok M_UpRiverModel_once = true := by decide +kernel
set_option maxRecDepth 100000 in
theorem ok_UpRiverModel_readPlace : am_ok M_UpRiverModel_readPlace = true := by decide +kernel
set_option maxRecDepth 100000 in
theorem ok_UpRiverModel_fault : am_ok M_UpRiverModel_fault = true := by decide +kernel
set_option maxRecDepth 100000 in
theorem ok_UpRiverModel_rule : am_ok M_UpRiverModel_rule = true := by decide +kernel
set_option maxRecDepth 100000 in
theorem ok_UpRiverModel_reach : am_ok M_UpRiverModel_reach = true := by decide +kernel
set_option maxRecDepth 100000 in
theorem ok_UpRiverModel_isReach : am_ok M_UpRiverModel_isReach = true := by decide +kernel
set_option maxRecDepth 100000 in
theorem ok_UpRiverModel_wayOf : am_ok M_UpRiverModel_wayOf = true := by decide +kernel
set_option maxRecDepth 100000 in
theorem ok_UpRiverModel_flow : am_ok M_UpRiverModel_flow = true := by decide +kernel
set_option maxRecDepth 100000 in
theorem ok_UpRiverModel_isOpen : am_ok M_UpRiverModel_isOpen = true := by decide +kernel
set_option maxRecDepth 100000 in
theorem ok_UpRiverModel_isMinute : am_ok M_UpRiverModel_isMinute = true := by decide +kernel
set_option maxRecDepth 100000 in
theorem ok_UpRiverModel_flowAt : am_ok M_UpRiverModel_flowAt = true := by decide +kernel
set_option maxRecDepth 100000 in
theorem ok_UpRiverModel_phase : am_ok M_UpRiverModel_phase = true := by decide +kernel
set_option maxRecDepth 100000 in
theorem ok_UpRiverModel_afloat : am_ok M_UpRiverModel_afloat = true := by decide +kernel
set_option maxRecDepth 100000 in
theorem ok_UpRiverModel_isLane : am_ok M_UpRiverModel_isLane = true := by decide +kernel
set_option maxRecDepth 100000 in
theorem ok_UpRiverModel_isAfloat : am_ok M_UpRiverModel_isAfloat = true := by decide +kernel
set_option maxRecDepth 100000 in
theorem ok_UpRiverModel_waterAt : am_ok M_UpRiverModel_waterAt = true := by decide +kernel
set_option maxRecDepth 100000 in
theorem ok_UpRiverModel_sail : am_ok M_UpRiverModel_sail = true := by decide +kernel
