/-! printed by wip/whole/gen.py: each table is as the bytes and the words are -/
set_option maxRecDepth 100000 in
theorem kX6_in : hd_okL mX6_in (hd_pg mX6_in) = true := by decide +kernel
set_option maxRecDepth 100000 in
theorem kX6_flag : hd_okL mX6_flag (hd_pg mX6_flag) = true := by decide +kernel
set_option maxRecDepth 100000 in
theorem kX6_firstDraft : hd_okL mX6_firstDraft (hd_pg mX6_firstDraft) = true := by decide +kernel
set_option maxRecDepth 100000 in
theorem kX6_keepDraft : hd_okL mX6_keepDraft (hd_pg mX6_keepDraft) = true := by decide +kernel
set_option maxRecDepth 100000 in
theorem kX6_feed : hd_okL mX6_feed (hd_pg mX6_feed) = true := by decide +kernel
set_option maxRecDepth 100000 in
theorem qX6_feed : hd_okC hd_T mX6_feed (hd_pg mX6_feed) = true := by decide +kernel
set_option maxRecDepth 100000 in
theorem kX6_end : hd_okL mX6_end (hd_pg mX6_end) = true := by decide +kernel
set_option maxRecDepth 100000 in
theorem qX6_end : hd_okC hd_T mX6_end (hd_pg mX6_end) = true := by decide +kernel
set_option maxRecDepth 100000 in
theorem kX6_requires : hd_okL mX6_requires (hd_pg mX6_requires) = true := by decide +kernel
set_option maxRecDepth 100000 in
theorem kX6_byteAt : hd_okL mX6_byteAt (hd_pg mX6_byteAt) = true := by decide +kernel
set_option maxRecDepth 100000 in
theorem kX6_is : hd_okL mX6_is (hd_pg mX6_is) = true := by decide +kernel
set_option maxRecDepth 100000 in
theorem qX6_is : hd_okC hd_T mX6_is (hd_pg mX6_is) = true := by decide +kernel
set_option maxRecDepth 100000 in
theorem kX6_endsIn : hd_okL mX6_endsIn (hd_pg mX6_endsIn) = true := by decide +kernel
set_option maxRecDepth 100000 in
theorem qX6_endsIn : hd_okC hd_T mX6_endsIn (hd_pg mX6_endsIn) = true := by decide +kernel
set_option maxRecDepth 100000 in
theorem kX6_lineNow : hd_okL mX6_lineNow (hd_pg mX6_lineNow) = true := by decide +kernel
set_option maxRecDepth 100000 in
theorem qX6_lineNow : hd_okC hd_T mX6_lineNow (hd_pg mX6_lineNow) = true := by decide +kernel
set_option maxRecDepth 100000 in
theorem kX6_reads : hd_okL mX6_reads (hd_pg mX6_reads) = true := by decide +kernel
set_option maxRecDepth 100000 in
theorem qX6_reads : hd_okC hd_T mX6_reads (hd_pg mX6_reads) = true := by decide +kernel
set_option maxRecDepth 100000 in
theorem kX6_readNumber : hd_okL mX6_readNumber (hd_pg mX6_readNumber) = true := by decide +kernel
set_option maxRecDepth 100000 in
theorem qX6_readNumber : hd_okC hd_T mX6_readNumber (hd_pg mX6_readNumber) = true := by decide +kernel
set_option maxRecDepth 100000 in
theorem kX6_readLineOf : hd_okL mX6_readLineOf (hd_pg mX6_readLineOf) = true := by decide +kernel
set_option maxRecDepth 100000 in
theorem qX6_readLineOf : hd_okC hd_T mX6_readLineOf (hd_pg mX6_readLineOf) = true := by decide +kernel
set_option maxRecDepth 100000 in
theorem kX6_readLine : hd_okL mX6_readLine (hd_pg mX6_readLine) = true := by decide +kernel
set_option maxRecDepth 100000 in
theorem qX6_readLine : hd_okC hd_T mX6_readLine (hd_pg mX6_readLine) = true := by decide +kernel
set_option maxRecDepth 100000 in
theorem kX6_text : hd_okL mX6_text (hd_pg mX6_text) = true := by decide +kernel
set_option maxRecDepth 100000 in
theorem qX6_text : hd_okC hd_T mX6_text (hd_pg mX6_text) = true := by decide +kernel
set_option maxRecDepth 100000 in
theorem kX6_fault : hd_okL mX6_fault (hd_pg mX6_fault) = true := by decide +kernel
set_option maxRecDepth 100000 in
theorem kX6_isThing : hd_okL mX6_isThing (hd_pg mX6_isThing) = true := by decide +kernel
set_option maxRecDepth 100000 in
theorem qX6_isThing : hd_okC hd_T mX6_isThing (hd_pg mX6_isThing) = true := by decide +kernel
set_option maxRecDepth 100000 in
theorem kX6_isMood : hd_okL mX6_isMood (hd_pg mX6_isMood) = true := by decide +kernel
set_option maxRecDepth 100000 in
theorem qX6_isMood : hd_okC hd_T mX6_isMood (hd_pg mX6_isMood) = true := by decide +kernel
set_option maxRecDepth 100000 in
theorem kX6_isPart : hd_okL mX6_isPart (hd_pg mX6_isPart) = true := by decide +kernel
set_option maxRecDepth 100000 in
theorem qX6_isPart : hd_okC hd_T mX6_isPart (hd_pg mX6_isPart) = true := by decide +kernel
set_option maxRecDepth 100000 in
theorem kX6_allAreIn : hd_okL mX6_allAreIn (hd_pg mX6_allAreIn) = true := by decide +kernel
set_option maxRecDepth 100000 in
theorem kX6_starts : hd_okL mX6_starts (hd_pg mX6_starts) = true := by decide +kernel
set_option maxRecDepth 100000 in
theorem kX6_settles : hd_okL mX6_settles (hd_pg mX6_settles) = true := by decide +kernel
set_option maxRecDepth 100000 in
theorem kX6_of : hd_okL mX6_of (hd_pg mX6_of) = true := by decide +kernel
set_option maxRecDepth 100000 in
theorem kX6_becomesOf : hd_okL mX6_becomesOf (hd_pg mX6_becomesOf) = true := by decide +kernel
set_option maxRecDepth 100000 in
theorem kX6_bears : hd_okL mX6_bears (hd_pg mX6_bears) = true := by decide +kernel
set_option maxRecDepth 100000 in
theorem qX6_bears : hd_okC hd_T mX6_bears (hd_pg mX6_bears) = true := by decide +kernel
set_option maxRecDepth 100000 in
theorem kX6_laidOn : hd_okL mX6_laidOn (hd_pg mX6_laidOn) = true := by decide +kernel
set_option maxRecDepth 100000 in
theorem qX6_laidOn : hd_okC hd_T mX6_laidOn (hd_pg mX6_laidOn) = true := by decide +kernel
set_option maxRecDepth 100000 in
theorem kX6_isCrushed : hd_okL mX6_isCrushed (hd_pg mX6_isCrushed) = true := by decide +kernel
set_option maxRecDepth 100000 in
theorem qX6_isCrushed : hd_okC hd_T mX6_isCrushed (hd_pg mX6_isCrushed) = true := by decide +kernel
set_option maxRecDepth 100000 in
theorem kX6_cheers : hd_okL mX6_cheers (hd_pg mX6_cheers) = true := by decide +kernel
set_option maxRecDepth 100000 in
theorem qX6_cheers : hd_okC hd_T mX6_cheers (hd_pg mX6_cheers) = true := by decide +kernel
set_option maxRecDepth 100000 in
theorem kX6_lasts : hd_okL mX6_lasts (hd_pg mX6_lasts) = true := by decide +kernel
set_option maxRecDepth 100000 in
theorem qX6_lasts : hd_okC hd_T mX6_lasts (hd_pg mX6_lasts) = true := by decide +kernel
set_option maxRecDepth 100000 in
theorem kX6_hourGoes : hd_okL mX6_hourGoes (hd_pg mX6_hourGoes) = true := by decide +kernel
set_option maxRecDepth 100000 in
theorem qX6_hourGoes : hd_okC hd_T mX6_hourGoes (hd_pg mX6_hourGoes) = true := by decide +kernel
set_option maxRecDepth 100000 in
theorem kX6_hoursGo : hd_okL mX6_hoursGo (hd_pg mX6_hoursGo) = true := by decide +kernel
set_option maxRecDepth 100000 in
theorem qX6_hoursGo : hd_okC hd_T mX6_hoursGo (hd_pg mX6_hoursGo) = true := by decide +kernel
set_option maxRecDepth 100000 in
theorem kX6_moodBehind : hd_okL mX6_moodBehind (hd_pg mX6_moodBehind) = true := by decide +kernel
set_option maxRecDepth 100000 in
theorem qX6_moodBehind : hd_okC hd_T mX6_moodBehind (hd_pg mX6_moodBehind) = true := by decide +kernel
set_option maxRecDepth 100000 in
theorem kX6_outNow : hd_okL mX6_outNow (hd_pg mX6_outNow) = true := by decide +kernel
set_option maxRecDepth 100000 in
theorem qX6_outNow : hd_okC hd_T mX6_outNow (hd_pg mX6_outNow) = true := by decide +kernel
set_option maxRecDepth 100000 in
theorem kX6_allGoIn : hd_okL mX6_allGoIn (hd_pg mX6_allGoIn) = true := by decide +kernel
set_option maxRecDepth 100000 in
theorem qX6_allGoIn : hd_okC hd_T mX6_allGoIn (hd_pg mX6_allGoIn) = true := by decide +kernel
set_option maxRecDepth 100000 in
theorem kX6_rule : hd_okL mX6_rule (hd_pg mX6_rule) = true := by decide +kernel
set_option maxRecDepth 100000 in
theorem qX6_rule : hd_okC hd_T mX6_rule (hd_pg mX6_rule) = true := by decide +kernel
set_option maxRecDepth 100000 in
theorem kX6_thing : hd_okL mX6_thing (hd_pg mX6_thing) = true := by decide +kernel
set_option maxRecDepth 100000 in
theorem qX6_thing : hd_okC hd_T mX6_thing (hd_pg mX6_thing) = true := by decide +kernel
set_option maxRecDepth 100000 in
theorem kX6_becomes : hd_okL mX6_becomes (hd_pg mX6_becomes) = true := by decide +kernel
set_option maxRecDepth 100000 in
theorem kX6_alter : hd_okL mX6_alter (hd_pg mX6_alter) = true := by decide +kernel
set_option maxRecDepth 100000 in
theorem qX6_alter : hd_okC hd_T mX6_alter (hd_pg mX6_alter) = true := by decide +kernel
set_option maxRecDepth 100000 in
theorem kX6_mood : hd_okL mX6_mood (hd_pg mX6_mood) = true := by decide +kernel
set_option maxRecDepth 100000 in
theorem qX6_mood : hd_okC hd_T mX6_mood (hd_pg mX6_mood) = true := by decide +kernel
set_option maxRecDepth 100000 in
theorem kX6_tire : hd_okL mX6_tire (hd_pg mX6_tire) = true := by decide +kernel
set_option maxRecDepth 100000 in
theorem qX6_tire : hd_okC hd_T mX6_tire (hd_pg mX6_tire) = true := by decide +kernel
set_option maxRecDepth 100000 in
theorem kX6_pack : hd_okL mX6_pack (hd_pg mX6_pack) = true := by decide +kernel
set_option maxRecDepth 100000 in
theorem qX6_pack : hd_okC hd_T mX6_pack (hd_pg mX6_pack) = true := by decide +kernel
set_option maxRecDepth 100000 in
theorem kX6_strap : hd_okL mX6_strap (hd_pg mX6_strap) = true := by decide +kernel
set_option maxRecDepth 100000 in
theorem qX6_strap : hd_okC hd_T mX6_strap (hd_pg mX6_strap) = true := by decide +kernel
set_option maxRecDepth 100000 in
theorem kX6_lift : hd_okL mX6_lift (hd_pg mX6_lift) = true := by decide +kernel
set_option maxRecDepth 100000 in
theorem qX6_lift : hd_okC hd_T mX6_lift (hd_pg mX6_lift) = true := by decide +kernel
set_option maxRecDepth 100000 in
theorem kX6_hours : hd_okL mX6_hours (hd_pg mX6_hours) = true := by decide +kernel
set_option maxRecDepth 100000 in
theorem qX6_hours : hd_okC hd_T mX6_hours (hd_pg mX6_hours) = true := by decide +kernel
set_option maxRecDepth 100000 in
theorem kX6_isFar : hd_okL mX6_isFar (hd_pg mX6_isFar) = true := by decide +kernel
set_option maxRecDepth 100000 in
theorem qX6_isFar : hd_okC hd_T mX6_isFar (hd_pg mX6_isFar) = true := by decide +kernel
set_option maxRecDepth 100000 in
theorem kX6_runs : hd_okL mX6_runs (hd_pg mX6_runs) = true := by decide +kernel
set_option maxRecDepth 100000 in
theorem qX6_runs : hd_okC hd_T mX6_runs (hd_pg mX6_runs) = true := by decide +kernel
set_option maxRecDepth 100000 in
theorem kX6_isGone : hd_okL mX6_isGone (hd_pg mX6_isGone) = true := by decide +kernel
set_option maxRecDepth 100000 in
theorem qX6_isGone : hd_okC hd_T mX6_isGone (hd_pg mX6_isGone) = true := by decide +kernel
set_option maxRecDepth 100000 in
theorem kX6_gone : hd_okL mX6_gone (hd_pg mX6_gone) = true := by decide +kernel
set_option maxRecDepth 100000 in
theorem qX6_gone : hd_okC hd_T mX6_gone (hd_pg mX6_gone) = true := by decide +kernel
