/-! printed by wip/whole/gen.py: each table is as the bytes and the words are -/
set_option maxRecDepth 100000 in
theorem kX6_glad : hd_okL mX6_glad (hd_pg mX6_glad) = true := by decide +kernel
set_option maxRecDepth 100000 in
theorem qX6_glad : hd_okC hd_T mX6_glad (hd_pg mX6_glad) = true := by decide +kernel
set_option maxRecDepth 100000 in
theorem kX6_startsJudging : hd_okL mX6_startsJudging (hd_pg mX6_startsJudging) = true := by decide +kernel
set_option maxRecDepth 100000 in
theorem kX6_judges : hd_okL mX6_judges (hd_pg mX6_judges) = true := by decide +kernel
set_option maxRecDepth 100000 in
theorem kX6_judged : hd_okL mX6_judged (hd_pg mX6_judged) = true := by decide +kernel
set_option maxRecDepth 100000 in
theorem kX6_lays : hd_okL mX6_lays (hd_pg mX6_lays) = true := by decide +kernel
set_option maxRecDepth 100000 in
theorem kX6_isRow : hd_okL mX6_isRow (hd_pg mX6_isRow) = true := by decide +kernel
set_option maxRecDepth 100000 in
theorem kX6_findOrder : hd_okL mX6_findOrder (hd_pg mX6_findOrder) = true := by decide +kernel
set_option maxRecDepth 100000 in
theorem qX6_findOrder : hd_okC hd_T mX6_findOrder (hd_pg mX6_findOrder) = true := by decide +kernel
set_option maxRecDepth 100000 in
theorem kX6_order : hd_okL mX6_order (hd_pg mX6_order) = true := by decide +kernel
set_option maxRecDepth 100000 in
theorem qX6_order : hd_okC hd_T mX6_order (hd_pg mX6_order) = true := by decide +kernel
set_option maxRecDepth 100000 in
theorem kX6_closes : hd_okL mX6_closes (hd_pg mX6_closes) = true := by decide +kernel
set_option maxRecDepth 100000 in
theorem qX6_closes : hd_okC hd_T mX6_closes (hd_pg mX6_closes) = true := by decide +kernel
set_option maxRecDepth 100000 in
theorem kX6_leave : hd_okL mX6_leave (hd_pg mX6_leave) = true := by decide +kernel
set_option maxRecDepth 100000 in
theorem qX6_leave : hd_okC hd_T mX6_leave (hd_pg mX6_leave) = true := by decide +kernel
set_option maxRecDepth 100000 in
theorem kX6_top : hd_okL mX6_top (hd_pg mX6_top) = true := by decide +kernel
set_option maxRecDepth 100000 in
theorem qX6_top : hd_okC hd_T mX6_top (hd_pg mX6_top) = true := by decide +kernel
set_option maxRecDepth 100000 in
theorem kX6_swap : hd_okL mX6_swap (hd_pg mX6_swap) = true := by decide +kernel
set_option maxRecDepth 100000 in
theorem qX6_swap : hd_okC hd_T mX6_swap (hd_pg mX6_swap) = true := by decide +kernel
set_option maxRecDepth 100000 in
theorem kX6_need : hd_okL mX6_need (hd_pg mX6_need) = true := by decide +kernel
set_option maxRecDepth 100000 in
theorem qX6_need : hd_okC hd_T mX6_need (hd_pg mX6_need) = true := by decide +kernel
set_option maxRecDepth 100000 in
theorem kX6_kind : hd_okL mX6_kind (hd_pg mX6_kind) = true := by decide +kernel
set_option maxRecDepth 100000 in
theorem qX6_kind : hd_okC hd_T mX6_kind (hd_pg mX6_kind) = true := by decide +kernel
set_option maxRecDepth 100000 in
theorem kX6_bear : hd_okL mX6_bear (hd_pg mX6_bear) = true := by decide +kernel
set_option maxRecDepth 100000 in
theorem qX6_bear : hd_okC hd_T mX6_bear (hd_pg mX6_bear) = true := by decide +kernel
set_option maxRecDepth 100000 in
theorem kX6_common : hd_okL mX6_common (hd_pg mX6_common) = true := by decide +kernel
set_option maxRecDepth 100000 in
theorem kX6_told : hd_okL mX6_told (hd_pg mX6_told) = true := by decide +kernel
set_option maxRecDepth 100000 in
theorem qX6_told : hd_okC hd_T mX6_told (hd_pg mX6_told) = true := by decide +kernel
set_option maxRecDepth 100000 in
theorem kX6_findOdds : hd_okL mX6_findOdds (hd_pg mX6_findOdds) = true := by decide +kernel
set_option maxRecDepth 100000 in
theorem qX6_findOdds : hd_okC hd_T mX6_findOdds (hd_pg mX6_findOdds) = true := by decide +kernel
set_option maxRecDepth 100000 in
theorem kX6_luck : hd_okL mX6_luck (hd_pg mX6_luck) = true := by decide +kernel
set_option maxRecDepth 100000 in
theorem qX6_luck : hd_okC hd_T mX6_luck (hd_pg mX6_luck) = true := by decide +kernel
set_option maxRecDepth 100000 in
theorem kX6_mean : hd_okL mX6_mean (hd_pg mX6_mean) = true := by decide +kernel
set_option maxRecDepth 100000 in
theorem qX6_mean : hd_okC hd_T mX6_mean (hd_pg mX6_mean) = true := by decide +kernel
set_option maxRecDepth 100000 in
theorem kX6_see : hd_okL mX6_see (hd_pg mX6_see) = true := by decide +kernel
set_option maxRecDepth 100000 in
theorem qX6_see : hd_okC hd_T mX6_see (hd_pg mX6_see) = true := by decide +kernel
set_option maxRecDepth 100000 in
theorem kX6_forget : hd_okL mX6_forget (hd_pg mX6_forget) = true := by decide +kernel
set_option maxRecDepth 100000 in
theorem qX6_forget : hd_okC hd_T mX6_forget (hd_pg mX6_forget) = true := by decide +kernel
set_option maxRecDepth 100000 in
theorem kX6_isSoWith : hd_okL mX6_isSoWith (hd_pg mX6_isSoWith) = true := by decide +kernel
set_option maxRecDepth 100000 in
theorem qX6_isSoWith : hd_okC hd_T mX6_isSoWith (hd_pg mX6_isSoWith) = true := by decide +kernel
set_option maxRecDepth 100000 in
theorem kX6_which : hd_okL mX6_which (hd_pg mX6_which) = true := by decide +kernel
set_option maxRecDepth 100000 in
theorem qX6_which : hd_okC hd_T mX6_which (hd_pg mX6_which) = true := by decide +kernel
set_option maxRecDepth 100000 in
theorem kX6_kinds : hd_okL mX6_kinds (hd_pg mX6_kinds) = true := by decide +kernel
set_option maxRecDepth 100000 in
theorem qX6_kinds : hd_okC hd_T mX6_kinds (hd_pg mX6_kinds) = true := by decide +kernel
set_option maxRecDepth 100000 in
theorem kX6_goods : hd_okL mX6_goods (hd_pg mX6_goods) = true := by decide +kernel
set_option maxRecDepth 100000 in
theorem qX6_goods : hd_okC hd_T mX6_goods (hd_pg mX6_goods) = true := by decide +kernel
set_option maxRecDepth 100000 in
theorem kX6_ask : hd_okL mX6_ask (hd_pg mX6_ask) = true := by decide +kernel
set_option maxRecDepth 100000 in
theorem qX6_ask : hd_okC hd_T mX6_ask (hd_pg mX6_ask) = true := by decide +kernel
set_option maxRecDepth 100000 in
theorem kX6_drift : hd_okL mX6_drift (hd_pg mX6_drift) = true := by decide +kernel
set_option maxRecDepth 100000 in
theorem qX6_drift : hd_okC hd_T mX6_drift (hd_pg mX6_drift) = true := by decide +kernel
set_option maxRecDepth 100000 in
theorem kX6_copies : hd_okL mX6_copies (hd_pg mX6_copies) = true := by decide +kernel
set_option maxRecDepth 100000 in
theorem kX6_keep : hd_okL mX6_keep (hd_pg mX6_keep) = true := by decide +kernel
set_option maxRecDepth 100000 in
theorem qX6_keep : hd_okC hd_T mX6_keep (hd_pg mX6_keep) = true := by decide +kernel
set_option maxRecDepth 100000 in
theorem kX6_back : hd_okL mX6_back (hd_pg mX6_back) = true := by decide +kernel
set_option maxRecDepth 100000 in
theorem qX6_back : hd_okC hd_T mX6_back (hd_pg mX6_back) = true := by decide +kernel
set_option maxRecDepth 100000 in
theorem kX6_isSheet : hd_okL mX6_isSheet (hd_pg mX6_isSheet) = true := by decide +kernel
set_option maxRecDepth 100000 in
theorem qX6_isSheet : hd_okC hd_T mX6_isSheet (hd_pg mX6_isSheet) = true := by decide +kernel
set_option maxRecDepth 100000 in
theorem kX6_sheet : hd_okL mX6_sheet (hd_pg mX6_sheet) = true := by decide +kernel
set_option maxRecDepth 100000 in
theorem qX6_sheet : hd_okC hd_T mX6_sheet (hd_pg mX6_sheet) = true := by decide +kernel
set_option maxRecDepth 100000 in
theorem kX6_lay : hd_okL mX6_lay (hd_pg mX6_lay) = true := by decide +kernel
set_option maxRecDepth 100000 in
theorem qX6_lay : hd_okC hd_T mX6_lay (hd_pg mX6_lay) = true := by decide +kernel
set_option maxRecDepth 100000 in
theorem kX6_read : hd_okL mX6_read (hd_pg mX6_read) = true := by decide +kernel
set_option maxRecDepth 100000 in
theorem qX6_read : hd_okC hd_T mX6_read (hd_pg mX6_read) = true := by decide +kernel
set_option maxRecDepth 100000 in
theorem kX6_torn : hd_okL mX6_torn (hd_pg mX6_torn) = true := by decide +kernel
set_option maxRecDepth 100000 in
theorem kX6_sumOf : hd_okL mX6_sumOf (hd_pg mX6_sumOf) = true := by decide +kernel
