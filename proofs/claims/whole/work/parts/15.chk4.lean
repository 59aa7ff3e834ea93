/-! printed by wip/whole/gen.py: each table is as the bytes and the words are -/
set_option maxRecDepth 100000 in
theorem kX6_count : hd_okL mX6_count (hd_pg mX6_count) = true := by decide +kernel
set_option maxRecDepth 100000 in
theorem qX6_count : hd_okC hd_T mX6_count (hd_pg mX6_count) = true := by decide +kernel
set_option maxRecDepth 100000 in
theorem kJ6_bitCount_0f7a4 : hd_okL mJ6_bitCount_0f7a4 (hd_pg mJ6_bitCount_0f7a4) = true := by decide +kernel
