/-! printed by wip/whole/gen.py: each table is as the bytes and the words are -/
set_option maxRecDepth 100000 in
theorem kX0_clear : hd_okL mX0_clear (hd_pg mX0_clear) = true := by decide +kernel
set_option maxRecDepth 100000 in
theorem kX0_copyFrom : hd_okL mX0_copyFrom (hd_pg mX0_copyFrom) = true := by decide +kernel
set_option maxRecDepth 100000 in
theorem qX0_copyFrom : hd_okC hd_T mX0_copyFrom (hd_pg mX0_copyFrom) = true := by decide +kernel
set_option maxRecDepth 100000 in
theorem kX0_copyOrdered : hd_okL mX0_copyOrdered (hd_pg mX0_copyOrdered) = true := by decide +kernel
set_option maxRecDepth 100000 in
theorem qX0_copyOrdered : hd_okC hd_T mX0_copyOrdered (hd_pg mX0_copyOrdered) = true := by decide +kernel
set_option maxRecDepth 100000 in
theorem kX0_copyDayOf : hd_okL mX0_copyDayOf (hd_pg mX0_copyDayOf) = true := by decide +kernel
set_option maxRecDepth 100000 in
theorem kX0_copyThing : hd_okL mX0_copyThing (hd_pg mX0_copyThing) = true := by decide +kernel
set_option maxRecDepth 100000 in
theorem kX0_isAllIn : hd_okL mX0_isAllIn (hd_pg mX0_isAllIn) = true := by decide +kernel
set_option maxRecDepth 100000 in
theorem kX0_isGone : hd_okL mX0_isGone (hd_pg mX0_isGone) = true := by decide +kernel
set_option maxRecDepth 100000 in
theorem kX0_add : hd_okL mX0_add (hd_pg mX0_add) = true := by decide +kernel
set_option maxRecDepth 100000 in
theorem kX0_change : hd_okL mX0_change (hd_pg mX0_change) = true := by decide +kernel
set_option maxRecDepth 100000 in
theorem kX0_bringAllIn : hd_okL mX0_bringAllIn (hd_pg mX0_bringAllIn) = true := by decide +kernel
set_option maxRecDepth 100000 in
theorem kX0_shrinkTo : hd_okL mX0_shrinkTo (hd_pg mX0_shrinkTo) = true := by decide +kernel
set_option maxRecDepth 100000 in
theorem kX0_takeAway : hd_okL mX0_takeAway (hd_pg mX0_takeAway) = true := by decide +kernel
set_option maxRecDepth 100000 in
theorem qX0_takeAway : hd_okC hd_T mX0_takeAway (hd_pg mX0_takeAway) = true := by decide +kernel
set_option maxRecDepth 100000 in
theorem kX0_layOnTop : hd_okL mX0_layOnTop (hd_pg mX0_layOnTop) = true := by decide +kernel
set_option maxRecDepth 100000 in
theorem qX0_layOnTop : hd_okC hd_T mX0_layOnTop (hd_pg mX0_layOnTop) = true := by decide +kernel
set_option maxRecDepth 100000 in
theorem kX0_exchange : hd_okL mX0_exchange (hd_pg mX0_exchange) = true := by decide +kernel
set_option maxRecDepth 100000 in
theorem qX0_exchange : hd_okC hd_T mX0_exchange (hd_pg mX0_exchange) = true := by decide +kernel
set_option maxRecDepth 100000 in
theorem kX0_exchangeIn : hd_okL mX0_exchangeIn (hd_pg mX0_exchangeIn) = true := by decide +kernel
set_option maxRecDepth 100000 in
theorem kX0_bearsOf : hd_okL mX0_bearsOf (hd_pg mX0_bearsOf) = true := by decide +kernel
set_option maxRecDepth 100000 in
theorem kX0_weightBehind : hd_okL mX0_weightBehind (hd_pg mX0_weightBehind) = true := by decide +kernel
set_option maxRecDepth 100000 in
theorem kX0_isCrushed : hd_okL mX0_isCrushed (hd_pg mX0_isCrushed) = true := by decide +kernel
set_option maxRecDepth 100000 in
theorem qX0_isCrushed : hd_okC hd_T mX0_isCrushed (hd_pg mX0_isCrushed) = true := by decide +kernel
set_option maxRecDepth 100000 in
theorem kX0_cheersOf : hd_okL mX0_cheersOf (hd_pg mX0_cheersOf) = true := by decide +kernel
set_option maxRecDepth 100000 in
theorem qX0_cheersOf : hd_okC hd_T mX0_cheersOf (hd_pg mX0_cheersOf) = true := by decide +kernel
set_option maxRecDepth 100000 in
theorem kX0_cheersUnder : hd_okL mX0_cheersUnder (hd_pg mX0_cheersUnder) = true := by decide +kernel
set_option maxRecDepth 100000 in
theorem qX0_cheersUnder : hd_okC hd_T mX0_cheersUnder (hd_pg mX0_cheersUnder) = true := by decide +kernel
set_option maxRecDepth 100000 in
theorem kX0_lastsOf : hd_okL mX0_lastsOf (hd_pg mX0_lastsOf) = true := by decide +kernel
set_option maxRecDepth 100000 in
theorem kX0_tallyCheers : hd_okL mX0_tallyCheers (hd_pg mX0_tallyCheers) = true := by decide +kernel
set_option maxRecDepth 100000 in
theorem qX0_tallyCheers : hd_okC hd_T mX0_tallyCheers (hd_pg mX0_tallyCheers) = true := by decide +kernel
set_option maxRecDepth 100000 in
theorem kX0_pass : hd_okL mX0_pass (hd_pg mX0_pass) = true := by decide +kernel
set_option maxRecDepth 100000 in
theorem qX0_pass : hd_okC hd_T mX0_pass (hd_pg mX0_pass) = true := by decide +kernel
set_option maxRecDepth 100000 in
theorem kX0_passOne : hd_okL mX0_passOne (hd_pg mX0_passOne) = true := by decide +kernel
set_option maxRecDepth 100000 in
theorem qX0_passOne : hd_okC hd_T mX0_passOne (hd_pg mX0_passOne) = true := by decide +kernel
set_option maxRecDepth 100000 in
theorem kX0_blow : hd_okL mX0_blow (hd_pg mX0_blow) = true := by decide +kernel
set_option maxRecDepth 100000 in
theorem qX0_blow : hd_okC hd_T mX0_blow (hd_pg mX0_blow) = true := by decide +kernel
set_option maxRecDepth 100000 in
theorem kX0_outBits : hd_okL mX0_outBits (hd_pg mX0_outBits) = true := by decide +kernel
set_option maxRecDepth 100000 in
theorem kX0_crushedBits : hd_okL mX0_crushedBits (hd_pg mX0_crushedBits) = true := by decide +kernel
set_option maxRecDepth 100000 in
theorem qX0_crushedBits : hd_okC hd_T mX0_crushedBits (hd_pg mX0_crushedBits) = true := by decide +kernel
set_option maxRecDepth 100000 in
theorem kX0_sumOf : hd_okL mX0_sumOf (hd_pg mX0_sumOf) = true := by decide +kernel
set_option maxRecDepth 100000 in
theorem kX2_add : hd_okL mX2_add (hd_pg mX2_add) = true := by decide +kernel
set_option maxRecDepth 100000 in
theorem kX2_copyFrom : hd_okL mX2_copyFrom (hd_pg mX2_copyFrom) = true := by decide +kernel
set_option maxRecDepth 100000 in
theorem kX3_renew : hd_okL mX3_renew (hd_pg mX3_renew) = true := by decide +kernel
set_option maxRecDepth 100000 in
theorem kX3_faultAt : hd_okL mX3_faultAt (hd_pg mX3_faultAt) = true := by decide +kernel
set_option maxRecDepth 100000 in
theorem kX3_faultOfThree : hd_okL mX3_faultOfThree (hd_pg mX3_faultOfThree) = true := by decide +kernel
set_option maxRecDepth 100000 in
theorem kX3_put : hd_okL mX3_put (hd_pg mX3_put) = true := by decide +kernel
set_option maxRecDepth 100000 in
theorem kX4_append : hd_okL mX4_append (hd_pg mX4_append) = true := by decide +kernel
set_option maxRecDepth 100000 in
theorem kX4_tell : hd_okL mX4_tell (hd_pg mX4_tell) = true := by decide +kernel
set_option maxRecDepth 100000 in
theorem qX4_tell : hd_okC hd_T mX4_tell (hd_pg mX4_tell) = true := by decide +kernel
set_option maxRecDepth 100000 in
theorem kX4_refuse : hd_okL mX4_refuse (hd_pg mX4_refuse) = true := by decide +kernel
set_option maxRecDepth 100000 in
theorem kX4_takeLine : hd_okL mX4_takeLine (hd_pg mX4_takeLine) = true := by decide +kernel
set_option maxRecDepth 100000 in
theorem qX4_takeLine : hd_okC hd_T mX4_takeLine (hd_pg mX4_takeLine) = true := by decide +kernel
set_option maxRecDepth 100000 in
theorem kX4_takeMood : hd_okL mX4_takeMood (hd_pg mX4_takeMood) = true := by decide +kernel
set_option maxRecDepth 100000 in
theorem qX4_takeMood : hd_okC hd_T mX4_takeMood (hd_pg mX4_takeMood) = true := by decide +kernel
set_option maxRecDepth 100000 in
theorem kX4_takeTire : hd_okL mX4_takeTire (hd_pg mX4_takeTire) = true := by decide +kernel
set_option maxRecDepth 100000 in
theorem qX4_takeTire : hd_okC hd_T mX4_takeTire (hd_pg mX4_takeTire) = true := by decide +kernel
set_option maxRecDepth 100000 in
theorem kX4_takeThing : hd_okL mX4_takeThing (hd_pg mX4_takeThing) = true := by decide +kernel
set_option maxRecDepth 100000 in
theorem qX4_takeThing : hd_okC hd_T mX4_takeThing (hd_pg mX4_takeThing) = true := by decide +kernel
set_option maxRecDepth 100000 in
theorem kX4_takeNumber : hd_okL mX4_takeNumber (hd_pg mX4_takeNumber) = true := by decide +kernel
set_option maxRecDepth 100000 in
theorem qX4_takeNumber : hd_okC hd_T mX4_takeNumber (hd_pg mX4_takeNumber) = true := by decide +kernel
set_option maxRecDepth 100000 in
theorem kX4_takeStop : hd_okL mX4_takeStop (hd_pg mX4_takeStop) = true := by decide +kernel
set_option maxRecDepth 100000 in
theorem qX4_takeStop : hd_okC hd_T mX4_takeStop (hd_pg mX4_takeStop) = true := by decide +kernel
set_option maxRecDepth 100000 in
theorem kX4_takeToken : hd_okL mX4_takeToken (hd_pg mX4_takeToken) = true := by decide +kernel
set_option maxRecDepth 100000 in
theorem qX4_takeToken : hd_okC hd_T mX4_takeToken (hd_pg mX4_takeToken) = true := by decide +kernel
set_option maxRecDepth 100000 in
theorem kX4_tellNumber : hd_okL mX4_tellNumber (hd_pg mX4_tellNumber) = true := by decide +kernel
set_option maxRecDepth 100000 in
theorem qX4_tellNumber : hd_okC hd_T mX4_tellNumber (hd_pg mX4_tellNumber) = true := by decide +kernel
set_option maxRecDepth 100000 in
theorem kX4_sortAt : hd_okL mX4_sortAt (hd_pg mX4_sortAt) = true := by decide +kernel
set_option maxRecDepth 100000 in
theorem kX4_wordTaken : hd_okL mX4_wordTaken (hd_pg mX4_wordTaken) = true := by decide +kernel
set_option maxRecDepth 100000 in
theorem qX4_wordTaken : hd_okC hd_T mX4_wordTaken (hd_pg mX4_wordTaken) = true := by decide +kernel
set_option maxRecDepth 100000 in
theorem kX4_isWord : hd_okL mX4_isWord (hd_pg mX4_isWord) = true := by decide +kernel
set_option maxRecDepth 100000 in
theorem kX5_feed : hd_okL mX5_feed (hd_pg mX5_feed) = true := by decide +kernel
set_option maxRecDepth 100000 in
theorem qX5_feed : hd_okC hd_T mX5_feed (hd_pg mX5_feed) = true := by decide +kernel
set_option maxRecDepth 100000 in
theorem kX5_end : hd_okL mX5_end (hd_pg mX5_end) = true := by decide +kernel
set_option maxRecDepth 100000 in
theorem qX5_end : hd_okC hd_T mX5_end (hd_pg mX5_end) = true := by decide +kernel
set_option maxRecDepth 100000 in
theorem kX5_text : hd_okL mX5_text (hd_pg mX5_text) = true := by decide +kernel
set_option maxRecDepth 100000 in
theorem qX5_text : hd_okC hd_T mX5_text (hd_pg mX5_text) = true := by decide +kernel
set_option maxRecDepth 100000 in
theorem kX5_fault : hd_okL mX5_fault (hd_pg mX5_fault) = true := by decide +kernel
set_option maxRecDepth 100000 in
theorem kX5_rule : hd_okL mX5_rule (hd_pg mX5_rule) = true := by decide +kernel
set_option maxRecDepth 100000 in
theorem qX5_rule : hd_okC hd_T mX5_rule (hd_pg mX5_rule) = true := by decide +kernel
set_option maxRecDepth 100000 in
theorem kX5_thing : hd_okL mX5_thing (hd_pg mX5_thing) = true := by decide +kernel
set_option maxRecDepth 100000 in
theorem qX5_thing : hd_okC hd_T mX5_thing (hd_pg mX5_thing) = true := by decide +kernel
set_option maxRecDepth 100000 in
theorem kX5_alter : hd_okL mX5_alter (hd_pg mX5_alter) = true := by decide +kernel
set_option maxRecDepth 100000 in
theorem qX5_alter : hd_okC hd_T mX5_alter (hd_pg mX5_alter) = true := by decide +kernel
set_option maxRecDepth 100000 in
theorem kX5_mood : hd_okL mX5_mood (hd_pg mX5_mood) = true := by decide +kernel
set_option maxRecDepth 100000 in
theorem qX5_mood : hd_okC hd_T mX5_mood (hd_pg mX5_mood) = true := by decide +kernel
set_option maxRecDepth 100000 in
theorem kX5_tire : hd_okL mX5_tire (hd_pg mX5_tire) = true := by decide +kernel
set_option maxRecDepth 100000 in
theorem qX5_tire : hd_okC hd_T mX5_tire (hd_pg mX5_tire) = true := by decide +kernel
set_option maxRecDepth 100000 in
theorem kX5_pack : hd_okL mX5_pack (hd_pg mX5_pack) = true := by decide +kernel
set_option maxRecDepth 100000 in
theorem qX5_pack : hd_okC hd_T mX5_pack (hd_pg mX5_pack) = true := by decide +kernel
set_option maxRecDepth 100000 in
theorem kX5_strap : hd_okL mX5_strap (hd_pg mX5_strap) = true := by decide +kernel
set_option maxRecDepth 100000 in
theorem qX5_strap : hd_okC hd_T mX5_strap (hd_pg mX5_strap) = true := by decide +kernel
set_option maxRecDepth 100000 in
theorem kX5_lift : hd_okL mX5_lift (hd_pg mX5_lift) = true := by decide +kernel
set_option maxRecDepth 100000 in
theorem qX5_lift : hd_okC hd_T mX5_lift (hd_pg mX5_lift) = true := by decide +kernel
set_option maxRecDepth 100000 in
theorem kX5_hours : hd_okL mX5_hours (hd_pg mX5_hours) = true := by decide +kernel
set_option maxRecDepth 100000 in
theorem qX5_hours : hd_okC hd_T mX5_hours (hd_pg mX5_hours) = true := by decide +kernel
set_option maxRecDepth 100000 in
theorem kX5_runs : hd_okL mX5_runs (hd_pg mX5_runs) = true := by decide +kernel
set_option maxRecDepth 100000 in
theorem qX5_runs : hd_okC hd_T mX5_runs (hd_pg mX5_runs) = true := by decide +kernel
