/-! printed by wip/whole/gen.py: each table is as the bytes and the words are -/
set_option maxRecDepth 100000 in
theorem kX5_gone : hd_okL mX5_gone (hd_pg mX5_gone) = true := by decide +kernel
set_option maxRecDepth 100000 in
theorem qX5_gone : hd_okC hd_T mX5_gone (hd_pg mX5_gone) = true := by decide +kernel
set_option maxRecDepth 100000 in
theorem kX5_glad : hd_okL mX5_glad (hd_pg mX5_glad) = true := by decide +kernel
set_option maxRecDepth 100000 in
theorem qX5_glad : hd_okC hd_T mX5_glad (hd_pg mX5_glad) = true := by decide +kernel
set_option maxRecDepth 100000 in
theorem kX5_order : hd_okL mX5_order (hd_pg mX5_order) = true := by decide +kernel
set_option maxRecDepth 100000 in
theorem qX5_order : hd_okC hd_T mX5_order (hd_pg mX5_order) = true := by decide +kernel
set_option maxRecDepth 100000 in
theorem kX5_leave : hd_okL mX5_leave (hd_pg mX5_leave) = true := by decide +kernel
set_option maxRecDepth 100000 in
theorem qX5_leave : hd_okC hd_T mX5_leave (hd_pg mX5_leave) = true := by decide +kernel
set_option maxRecDepth 100000 in
theorem kX5_top : hd_okL mX5_top (hd_pg mX5_top) = true := by decide +kernel
set_option maxRecDepth 100000 in
theorem qX5_top : hd_okC hd_T mX5_top (hd_pg mX5_top) = true := by decide +kernel
set_option maxRecDepth 100000 in
theorem kX5_swap : hd_okL mX5_swap (hd_pg mX5_swap) = true := by decide +kernel
set_option maxRecDepth 100000 in
theorem qX5_swap : hd_okC hd_T mX5_swap (hd_pg mX5_swap) = true := by decide +kernel
set_option maxRecDepth 100000 in
theorem kX5_need : hd_okL mX5_need (hd_pg mX5_need) = true := by decide +kernel
set_option maxRecDepth 100000 in
theorem qX5_need : hd_okC hd_T mX5_need (hd_pg mX5_need) = true := by decide +kernel
set_option maxRecDepth 100000 in
theorem kX5_kind : hd_okL mX5_kind (hd_pg mX5_kind) = true := by decide +kernel
set_option maxRecDepth 100000 in
theorem qX5_kind : hd_okC hd_T mX5_kind (hd_pg mX5_kind) = true := by decide +kernel
set_option maxRecDepth 100000 in
theorem kX5_bear : hd_okL mX5_bear (hd_pg mX5_bear) = true := by decide +kernel
set_option maxRecDepth 100000 in
theorem qX5_bear : hd_okC hd_T mX5_bear (hd_pg mX5_bear) = true := by decide +kernel
set_option maxRecDepth 100000 in
theorem kX5_luck : hd_okL mX5_luck (hd_pg mX5_luck) = true := by decide +kernel
set_option maxRecDepth 100000 in
theorem qX5_luck : hd_okC hd_T mX5_luck (hd_pg mX5_luck) = true := by decide +kernel
set_option maxRecDepth 100000 in
theorem kX5_mean : hd_okL mX5_mean (hd_pg mX5_mean) = true := by decide +kernel
set_option maxRecDepth 100000 in
theorem qX5_mean : hd_okC hd_T mX5_mean (hd_pg mX5_mean) = true := by decide +kernel
set_option maxRecDepth 100000 in
theorem kX5_see : hd_okL mX5_see (hd_pg mX5_see) = true := by decide +kernel
set_option maxRecDepth 100000 in
theorem qX5_see : hd_okC hd_T mX5_see (hd_pg mX5_see) = true := by decide +kernel
set_option maxRecDepth 100000 in
theorem kX5_forget : hd_okL mX5_forget (hd_pg mX5_forget) = true := by decide +kernel
set_option maxRecDepth 100000 in
theorem qX5_forget : hd_okC hd_T mX5_forget (hd_pg mX5_forget) = true := by decide +kernel
set_option maxRecDepth 100000 in
theorem kX5_kinds : hd_okL mX5_kinds (hd_pg mX5_kinds) = true := by decide +kernel
set_option maxRecDepth 100000 in
theorem qX5_kinds : hd_okC hd_T mX5_kinds (hd_pg mX5_kinds) = true := by decide +kernel
set_option maxRecDepth 100000 in
theorem kX5_goods : hd_okL mX5_goods (hd_pg mX5_goods) = true := by decide +kernel
set_option maxRecDepth 100000 in
theorem qX5_goods : hd_okC hd_T mX5_goods (hd_pg mX5_goods) = true := by decide +kernel
set_option maxRecDepth 100000 in
theorem kX5_ask : hd_okL mX5_ask (hd_pg mX5_ask) = true := by decide +kernel
set_option maxRecDepth 100000 in
theorem qX5_ask : hd_okC hd_T mX5_ask (hd_pg mX5_ask) = true := by decide +kernel
set_option maxRecDepth 100000 in
theorem kX5_drift : hd_okL mX5_drift (hd_pg mX5_drift) = true := by decide +kernel
set_option maxRecDepth 100000 in
theorem qX5_drift : hd_okC hd_T mX5_drift (hd_pg mX5_drift) = true := by decide +kernel
set_option maxRecDepth 100000 in
theorem kX5_keep : hd_okL mX5_keep (hd_pg mX5_keep) = true := by decide +kernel
set_option maxRecDepth 100000 in
theorem qX5_keep : hd_okC hd_T mX5_keep (hd_pg mX5_keep) = true := by decide +kernel
set_option maxRecDepth 100000 in
theorem kX5_back : hd_okL mX5_back (hd_pg mX5_back) = true := by decide +kernel
set_option maxRecDepth 100000 in
theorem qX5_back : hd_okC hd_T mX5_back (hd_pg mX5_back) = true := by decide +kernel
set_option maxRecDepth 100000 in
theorem kX5_sheet : hd_okL mX5_sheet (hd_pg mX5_sheet) = true := by decide +kernel
set_option maxRecDepth 100000 in
theorem qX5_sheet : hd_okC hd_T mX5_sheet (hd_pg mX5_sheet) = true := by decide +kernel
set_option maxRecDepth 100000 in
theorem kX5_lay : hd_okL mX5_lay (hd_pg mX5_lay) = true := by decide +kernel
set_option maxRecDepth 100000 in
theorem qX5_lay : hd_okC hd_T mX5_lay (hd_pg mX5_lay) = true := by decide +kernel
set_option maxRecDepth 100000 in
theorem kX5_read : hd_okL mX5_read (hd_pg mX5_read) = true := by decide +kernel
set_option maxRecDepth 100000 in
theorem qX5_read : hd_okC hd_T mX5_read (hd_pg mX5_read) = true := by decide +kernel
set_option maxRecDepth 100000 in
theorem kX5_torn : hd_okL mX5_torn (hd_pg mX5_torn) = true := by decide +kernel
set_option maxRecDepth 100000 in
theorem kX5_count : hd_okL mX5_count (hd_pg mX5_count) = true := by decide +kernel
set_option maxRecDepth 100000 in
theorem qX5_count : hd_okC hd_T mX5_count (hd_pg mX5_count) = true := by decide +kernel
set_option maxRecDepth 100000 in
theorem kX5_isWithin : hd_okL mX5_isWithin (hd_pg mX5_isWithin) = true := by decide +kernel
set_option maxRecDepth 100000 in
theorem kX5_isMood : hd_okL mX5_isMood (hd_pg mX5_isMood) = true := by decide +kernel
set_option maxRecDepth 100000 in
theorem qX5_isMood : hd_okC hd_T mX5_isMood (hd_pg mX5_isMood) = true := by decide +kernel
set_option maxRecDepth 100000 in
theorem kX5_isSpan : hd_okL mX5_isSpan (hd_pg mX5_isSpan) = true := by decide +kernel
set_option maxRecDepth 100000 in
theorem qX5_isSpan : hd_okC hd_T mX5_isSpan (hd_pg mX5_isSpan) = true := by decide +kernel
set_option maxRecDepth 100000 in
theorem kX5_isOdds : hd_okL mX5_isOdds (hd_pg mX5_isOdds) = true := by decide +kernel
set_option maxRecDepth 100000 in
theorem qX5_isOdds : hd_okC hd_T mX5_isOdds (hd_pg mX5_isOdds) = true := by decide +kernel
set_option maxRecDepth 100000 in
theorem kX5_isSheet : hd_okL mX5_isSheet (hd_pg mX5_isSheet) = true := by decide +kernel
set_option maxRecDepth 100000 in
theorem qX5_isSheet : hd_okC hd_T mX5_isSheet (hd_pg mX5_isSheet) = true := by decide +kernel
set_option maxRecDepth 100000 in
theorem kX5_isLane : hd_okL mX5_isLane (hd_pg mX5_isLane) = true := by decide +kernel
set_option maxRecDepth 100000 in
theorem qX5_isLane : hd_okC hd_T mX5_isLane (hd_pg mX5_isLane) = true := by decide +kernel
set_option maxRecDepth 100000 in
theorem kX5_isThing : hd_okL mX5_isThing (hd_pg mX5_isThing) = true := by decide +kernel
set_option maxRecDepth 100000 in
theorem kX5_isTrait : hd_okL mX5_isTrait (hd_pg mX5_isTrait) = true := by decide +kernel
set_option maxRecDepth 100000 in
theorem qX5_isTrait : hd_okC hd_T mX5_isTrait (hd_pg mX5_isTrait) = true := by decide +kernel
set_option maxRecDepth 100000 in
theorem kX5_startTrial : hd_okL mX5_startTrial (hd_pg mX5_startTrial) = true := by decide +kernel
set_option maxRecDepth 100000 in
theorem qX5_startTrial : hd_okC hd_T mX5_startTrial (hd_pg mX5_startTrial) = true := by decide +kernel
set_option maxRecDepth 100000 in
theorem kX5_moodBehind : hd_okL mX5_moodBehind (hd_pg mX5_moodBehind) = true := by decide +kernel
set_option maxRecDepth 100000 in
theorem qX5_moodBehind : hd_okC hd_T mX5_moodBehind (hd_pg mX5_moodBehind) = true := by decide +kernel
set_option maxRecDepth 100000 in
theorem kX5_moodWith : hd_okL mX5_moodWith (hd_pg mX5_moodWith) = true := by decide +kernel
set_option maxRecDepth 100000 in
theorem qX5_moodWith : hd_okC hd_T mX5_moodWith (hd_pg mX5_moodWith) = true := by decide +kernel
set_option maxRecDepth 100000 in
theorem kX5_outBehind : hd_okL mX5_outBehind (hd_pg mX5_outBehind) = true := by decide +kernel
set_option maxRecDepth 100000 in
theorem qX5_outBehind : hd_okC hd_T mX5_outBehind (hd_pg mX5_outBehind) = true := by decide +kernel
set_option maxRecDepth 100000 in
theorem kX5_utmostMood : hd_okL mX5_utmostMood (hd_pg mX5_utmostMood) = true := by decide +kernel
set_option maxRecDepth 100000 in
theorem qX5_utmostMood : hd_okC hd_T mX5_utmostMood (hd_pg mX5_utmostMood) = true := by decide +kernel
set_option maxRecDepth 100000 in
theorem kX5_firstAtZero : hd_okL mX5_firstAtZero (hd_pg mX5_firstAtZero) = true := by decide +kernel
set_option maxRecDepth 100000 in
theorem qX5_firstAtZero : hd_okC hd_T mX5_firstAtZero (hd_pg mX5_firstAtZero) = true := by decide +kernel
set_option maxRecDepth 100000 in
theorem kX5_bestOfOne : hd_okL mX5_bestOfOne (hd_pg mX5_bestOfOne) = true := by decide +kernel
set_option maxRecDepth 100000 in
theorem qX5_bestOfOne : hd_okC hd_T mX5_bestOfOne (hd_pg mX5_bestOfOne) = true := by decide +kernel
set_option maxRecDepth 100000 in
theorem kX5_foundOrBest : hd_okL mX5_foundOrBest (hd_pg mX5_foundOrBest) = true := by decide +kernel
set_option maxRecDepth 100000 in
theorem kX5_findBestRow : hd_okL mX5_findBestRow (hd_pg mX5_findBestRow) = true := by decide +kernel
set_option maxRecDepth 100000 in
theorem qX5_findBestRow : hd_okC hd_T mX5_findBestRow (hd_pg mX5_findBestRow) = true := by decide +kernel
set_option maxRecDepth 100000 in
theorem kX5_stepRow : hd_okL mX5_stepRow (hd_pg mX5_stepRow) = true := by decide +kernel
set_option maxRecDepth 100000 in
theorem qX5_stepRow : hd_okC hd_T mX5_stepRow (hd_pg mX5_stepRow) = true := by decide +kernel
set_option maxRecDepth 100000 in
theorem kX5_exchangeInRow : hd_okL mX5_exchangeInRow (hd_pg mX5_exchangeInRow) = true := by decide +kernel
set_option maxRecDepth 100000 in
theorem kX5_moodUnderLids : hd_okL mX5_moodUnderLids (hd_pg mX5_moodUnderLids) = true := by decide +kernel
set_option maxRecDepth 100000 in
theorem qX5_moodUnderLids : hd_okC hd_T mX5_moodUnderLids (hd_pg mX5_moodUnderLids) = true := by decide +kernel
set_option maxRecDepth 100000 in
theorem kX5_waysOfLids : hd_okL mX5_waysOfLids (hd_pg mX5_waysOfLids) = true := by decide +kernel
set_option maxRecDepth 100000 in
theorem kX5_partOfFraction : hd_okL mX5_partOfFraction (hd_pg mX5_partOfFraction) = true := by decide +kernel
set_option maxRecDepth 100000 in
theorem kX5_traitsAsSeen : hd_okL mX5_traitsAsSeen (hd_pg mX5_traitsAsSeen) = true := by decide +kernel
set_option maxRecDepth 100000 in
theorem qX5_traitsAsSeen : hd_okC hd_T mX5_traitsAsSeen (hd_pg mX5_traitsAsSeen) = true := by decide +kernel
set_option maxRecDepth 100000 in
theorem kX5_isAsSeen : hd_okL mX5_isAsSeen (hd_pg mX5_isAsSeen) = true := by decide +kernel
set_option maxRecDepth 100000 in
theorem qX5_isAsSeen : hd_okC hd_T mX5_isAsSeen (hd_pg mX5_isAsSeen) = true := by decide +kernel
set_option maxRecDepth 100000 in
theorem kX5_fillLooks : hd_okL mX5_fillLooks (hd_pg mX5_fillLooks) = true := by decide +kernel
set_option maxRecDepth 100000 in
theorem qX5_fillLooks : hd_okC hd_T mX5_fillLooks (hd_pg mX5_fillLooks) = true := by decide +kernel
set_option maxRecDepth 100000 in
theorem kX5_mostAlike : hd_okL mX5_mostAlike (hd_pg mX5_mostAlike) = true := by decide +kernel
set_option maxRecDepth 100000 in
theorem qX5_mostAlike : hd_okC hd_T mX5_mostAlike (hd_pg mX5_mostAlike) = true := by decide +kernel
set_option maxRecDepth 100000 in
theorem kX5_alikeWith : hd_okL mX5_alikeWith (hd_pg mX5_alikeWith) = true := by decide +kernel
set_option maxRecDepth 100000 in
theorem kX5_imagesMade : hd_okL mX5_imagesMade (hd_pg mX5_imagesMade) = true := by decide +kernel
