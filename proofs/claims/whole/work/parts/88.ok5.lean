set_option maxRecDepth 100000 in
theorem ok_UpRiverModel_loses : am_ok M_UpRiverModel_loses = true := by decide +kernel
set_option maxRecDepth 100000 in
theorem ok_UpRiverModel_narrow : am_ok M_UpRiverModel_narrow = true := by decide +kernel
set_option maxRecDepth 100000 in
theorem ok_UpRiverModel_lead : am_ok M_UpRiverModel_lead = true := by decide +kernel
set_option maxRecDepth 100000 in
theorem ok_UpRiverModel_isLead : am_ok M_UpRiverModel_isLead = true := by decide +kernel
set_option maxRecDepth 100000 in
theorem ok_UpRiverModel_shallows : am_ok M_UpRiverModel_shallows = true := by decide +kernel
set_option maxRecDepth 100000 in
theorem ok_UpRiverModel_near : am_ok M_UpRiverModel_near = true := by decide +kernel
set_option maxRecDepth 100000 in
theorem ok_UpRiverModel_logged : am_ok M_UpRiverModel_logged = true := by decide +kernel
set_option maxRecDepth 100000 in
theorem ok_UpRiverModel_logOf : am_ok M_UpRiverModel_logOf = true := by decide +kernel
set_option maxRecDepth 100000 in
theorem ok_UpRiverModel_lost : am_ok M_UpRiverModel_lost = true := by decide +kernel
set_option maxRecDepth 100000 in
theorem ok_UpRiverModel_stretch : am_ok M_UpRiverModel_stretch = true := by decide +kernel
set_option maxRecDepth 100000 in
theorem ok_UpRiverModel_swing : am_ok M_UpRiverModel_swing = true := by decide +kernel
set_option maxRecDepth 100000 in
theorem ok_UpRiverModel_judged : am_ok M_UpRiverModel_judged = true := by decide +kernel
set_option maxRecDepth 100000 in
theorem ok_UpRiverModel_rightBy : am_ok M_UpRiverModel_rightBy = true := by decide +kernel
set_option maxRecDepth 100000 in
theorem ok_UpRiverModel_judge : am_ok M_UpRiverModel_judge = true := by decide +kernel
set_option maxRecDepth 100000 in
theorem ok_UpRiverModel_barge : am_ok M_UpRiverModel_barge = true := by decide +kernel
set_option maxRecDepth 100000 in
theorem ok_UpRiverModel_keep : am_ok M_UpRiverModel_keep = true := by decide +kernel
set_option maxRecDepth 100000 in
theorem ok_UpRiverModel_copies : am_ok M_UpRiverModel_copies = true := by decide +kernel
set_option maxRecDepth 100000 in
theorem ok_UpRiverModel_back : am_ok M_UpRiverModel_back = true := by decide +kernel
set_option maxRecDepth 100000 in
theorem ok_UpRiverModel_sheet : am_ok M_UpRiverModel_sheet = true := by decide +kernel
set_option maxRecDepth 100000 in
theorem ok_UpRiverModel_isSheet : am_ok M_UpRiverModel_isSheet = true := by decide +kernel
set_option maxRecDepth 100000 in
theorem ok_UpRiverModel_lay : am_ok M_UpRiverModel_lay = true := by decide +kernel
set_option maxRecDepth 100000 in
theorem ok_UpRiverModel_read : am_ok M_UpRiverModel_read = true := by decide +kernel
set_option maxRecDepth 100000 in
theorem ok_UpRiverModel_torn : am_ok M_UpRiverModel_torn = true := by decide +kernel
set_option maxRecDepth 100000 in
theorem ok_UpRiverModel_count : am_ok M_UpRiverModel_count = true := by decide +kernel
