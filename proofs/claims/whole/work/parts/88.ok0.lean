set_option maxRecDepth 100000 in
theorem ok_UpRiver_init : am_ok M_UpRiver_init = true := by decide +kernel
set_option maxRecDepth 100000 in
theorem ok_Reader_init : am_ok M_Reader_init = true := by decide +kernel
set_option maxRecDepth 100000 in
theorem ok_Tape_init : am_ok M_Tape_init = true := by decide +kernel
set_option maxRecDepth 100000 in
theorem ok_River_init : am_ok M_River_init = true := by decide +kernel
set_option maxRecDepth 100000 in
theorem ok_River_forget : am_ok M_River_forget = true := by decide +kernel
set_option maxRecDepth 100000 in
theorem ok_River_settle : am_ok M_River_settle = true := by decide +kernel
set_option maxRecDepth 100000 in
theorem ok_River_bitsAfloat : am_ok M_River_bitsAfloat = true := by decide +kernel
set_option maxRecDepth 100000 in
theorem ok_River_isOpen : am_ok M_River_isOpen = true := by decide +kernel
set_option maxRecDepth 100000 in
theorem ok_Voyage_init : am_ok M_Voyage_init = true := by decide +kernel
set_option maxRecDepth 100000 in
theorem ok_Boat_init : am_ok M_Boat_init = true := by decide +kernel
set_option maxRecDepth 100000 in
theorem ok_Log_init : am_ok M_Log_init = true := by decide +kernel
set_option maxRecDepth 100000 in
theorem ok_Swings_init : am_ok M_Swings_init = true := by decide +kernel
set_option maxRecDepth 100000 in
theorem ok_Search_init : am_ok M_Search_init = true := by decide +kernel
set_option maxRecDepth 100000 in
theorem ok_Skipper_init : am_ok M_Skipper_init = true := by decide +kernel
set_option maxRecDepth 100000 in
theorem ok_Sheet_init : am_ok M_Sheet_init = true := by decide +kernel
set_option maxRecDepth 100000 in
theorem ok_UpRiver_feed : am_ok M_UpRiver_feed = true := by decide +kernel
set_option maxRecDepth 100000 in
theorem ok_Tape_append : am_ok M_Tape_append = true := by decide +kernel
set_option maxRecDepth 100000 in
theorem ok_UpRiver_end : am_ok M_UpRiver_end = true := by decide +kernel
set_option maxRecDepth 100000 in
theorem ok_UpRiver_text : am_ok M_UpRiver_text = true := by decide +kernel
set_option maxRecDepth 100000 in
theorem ok_Reader_readText : am_ok M_Reader_readText = true := by decide +kernel
set_option maxRecDepth 100000 in
theorem ok_Reader_forget : am_ok M_Reader_forget = true := by decide +kernel
set_option maxRecDepth 100000 in
theorem ok_Reader_nextToken : am_ok M_Reader_nextToken = true := by decide +kernel
set_option maxRecDepth 100000 in
theorem ok_Tape_at : am_ok M_Tape_at = true := by decide +kernel
set_option maxRecDepth 100000 in
theorem ok_Reader_isLetter : am_ok M_Reader_isLetter = true := by decide +kernel
set_option maxRecDepth 100000 in
theorem ok_Reader_skipName : am_ok M_Reader_skipName = true := by decide +kernel
set_option maxRecDepth 100000 in
theorem ok_Reader_isFigure : am_ok M_Reader_isFigure = true := by decide +kernel
set_option maxRecDepth 100000 in
theorem ok_Reader_takeNumber : am_ok M_Reader_takeNumber = true := by decide +kernel
set_option maxRecDepth 100000 in
theorem ok_Reader_fail : am_ok M_Reader_fail = true := by decide +kernel
set_option maxRecDepth 100000 in
theorem ok_Reader_readLine : am_ok M_Reader_readLine = true := by decide +kernel
set_option maxRecDepth 100000 in
theorem ok_Reader_kindOfName : am_ok M_Reader_kindOfName = true := by decide +kernel
set_option maxRecDepth 100000 in
theorem ok_Reader_wordOf : am_ok M_Reader_wordOf = true := by decide +kernel
set_option maxRecDepth 100000 in
theorem ok_Reader_isWord : am_ok M_Reader_isWord = true := by decide +kernel
set_option maxRecDepth 100000 in
theorem ok_JString_length : am_ok M_JString_length = true := by decide +kernel
set_option maxRecDepth 100000 in
theorem ok_JString_coder : am_ok M_JString_coder = true := by decide +kernel
set_option maxRecDepth 100000 in
theorem ok_JString_charAt : am_ok M_JString_charAt = true := by decide +kernel
set_option maxRecDepth 100000 in
theorem ok_JString_isLatin1 : am_ok M_JString_isLatin1 = true := by decide +kernel
set_option maxRecDepth 100000 in
theorem ok_JStringLatin1_charAt : am_ok M_JStringLatin1_charAt = true := by decide +kernel
set_option maxRecDepth 100000 in
theorem ok_JString_checkIndex : am_ok M_JString_checkIndex = true := by decide +kernel
set_option maxRecDepth 100000 in
theorem ok_JPreconditions_checkIndex : am_ok M_JPreconditions_checkIndex = true := by decide +kernel
set_option maxRecDepth 100000 in
theorem ok_Reader_mark : am_ok M_Reader_mark = true := by decide +kernel
set_option maxRecDepth 100000 in
theorem ok_Reader_numbersOf : am_ok M_Reader_numbersOf = true := by decide +kernel
set_option maxRecDepth 100000 in
theorem ok_Reader_leastOf : am_ok M_Reader_leastOf = true := by decide +kernel
set_option maxRecDepth 100000 in
theorem ok_Reader_mostOf : am_ok M_Reader_mostOf = true := by decide +kernel
set_option maxRecDepth 100000 in
theorem ok_Reader_readNumber : am_ok M_Reader_readNumber = true := by decide +kernel
set_option maxRecDepth 100000 in
theorem ok_Reader_markOf : am_ok M_Reader_markOf = true := by decide +kernel
set_option maxRecDepth 100000 in
theorem ok_Reader_tell : am_ok M_Reader_tell = true := by decide +kernel
set_option maxRecDepth 100000 in
theorem ok_Reader_tellPhases : am_ok M_Reader_tellPhases = true := by decide +kernel
set_option maxRecDepth 100000 in
theorem ok_Reader_tellReach : am_ok M_Reader_tellReach = true := by decide +kernel
set_option maxRecDepth 100000 in
theorem ok_JMath_max : am_ok M_JMath_max = true := by decide +kernel
set_option maxRecDepth 100000 in
theorem ok_Reader_tradeFor : am_ok M_Reader_tradeFor = true := by decide +kernel
set_option maxRecDepth 100000 in
theorem ok_UpRiver_beginAnew : am_ok M_UpRiver_beginAnew = true := by decide +kernel
set_option maxRecDepth 100000 in
theorem ok_Boat_lieAtStart : am_ok M_Boat_lieAtStart = true := by decide +kernel
set_option maxRecDepth 100000 in
theorem ok_Boat_lieAt : am_ok M_Boat_lieAt = true := by decide +kernel
set_option maxRecDepth 100000 in
theorem ok_UpRiver_fault : am_ok M_UpRiver_fault = true := by decide +kernel
set_option maxRecDepth 100000 in
theorem ok_UpRiver_rule : am_ok M_UpRiver_rule = true := by decide +kernel
set_option maxRecDepth 100000 in
theorem ok_UpRiver_reach : am_ok M_UpRiver_reach = true := by decide +kernel
