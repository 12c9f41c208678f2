/-! ===== a state that is made, 0 .. 19 ===== -/
set_option maxRecDepth 1000000 in
theorem nw_s0 : nw_one 0 = true := by decide +kernel
set_option maxRecDepth 1000000 in
theorem nw_s1 : nw_one 1 = true := by decide +kernel
set_option maxRecDepth 1000000 in
theorem nw_s2 : nw_one 2 = true := by decide +kernel
set_option maxRecDepth 1000000 in
theorem nw_s3 : nw_one 3 = true := by decide +kernel
set_option maxRecDepth 1000000 in
theorem nw_s4 : nw_one 4 = true := by decide +kernel
set_option maxRecDepth 1000000 in
theorem nw_s5 : nw_one 5 = true := by decide +kernel
set_option maxRecDepth 1000000 in
theorem nw_s6 : nw_one 6 = true := by decide +kernel
set_option maxRecDepth 1000000 in
theorem nw_s7 : nw_one 7 = true := by decide +kernel
set_option maxRecDepth 1000000 in
theorem nw_s8 : nw_one 8 = true := by decide +kernel
set_option maxRecDepth 1000000 in
theorem nw_s9 : nw_one 9 = true := by decide +kernel
set_option maxRecDepth 1000000 in
theorem nw_s10 : nw_one 10 = true := by decide +kernel
set_option maxRecDepth 1000000 in
theorem nw_s11 : nw_one 11 = true := by decide +kernel
set_option maxRecDepth 1000000 in
theorem nw_s12 : nw_one 12 = true := by decide +kernel
set_option maxRecDepth 1000000 in
theorem nw_s13 : nw_one 13 = true := by decide +kernel
set_option maxRecDepth 1000000 in
theorem nw_s14 : nw_one 14 = true := by decide +kernel
set_option maxRecDepth 1000000 in
theorem nw_s15 : nw_one 15 = true := by decide +kernel
set_option maxRecDepth 1000000 in
theorem nw_s16 : nw_one 16 = true := by decide +kernel
set_option maxRecDepth 1000000 in
theorem nw_s17 : nw_one 17 = true := by decide +kernel
set_option maxRecDepth 1000000 in
theorem nw_s18 : nw_one 18 = true := by decide +kernel
set_option maxRecDepth 1000000 in
theorem nw_s19 : nw_one 19 = true := by decide +kernel
