/-! ===== the looker passes contracts 0 .. 21, one by one ===== -/
set_option maxRecDepth 1000000 in
theorem lk_t0 : at_chk (at_CM ++ at_CA.take 0) at_JT 4000 (at_CA.getD 0 at_dC) = true := by decide +kernel
set_option maxRecDepth 1000000 in
theorem lk_t1 : at_chk (at_CM ++ at_CA.take 1) at_JT 4000 (at_CA.getD 1 at_dC) = true := by decide +kernel
set_option maxRecDepth 1000000 in
theorem lk_t2 : at_chk (at_CM ++ at_CA.take 2) at_JT 4000 (at_CA.getD 2 at_dC) = true := by decide +kernel
set_option maxRecDepth 1000000 in
theorem lk_t3 : at_chk (at_CM ++ at_CA.take 3) at_JT 4000 (at_CA.getD 3 at_dC) = true := by decide +kernel
set_option maxRecDepth 1000000 in
theorem lk_t4 : at_chk (at_CM ++ at_CA.take 4) at_JT 4000 (at_CA.getD 4 at_dC) = true := by decide +kernel
set_option maxRecDepth 1000000 in
theorem lk_t5 : at_chk (at_CM ++ at_CA.take 5) at_JT 4000 (at_CA.getD 5 at_dC) = true := by decide +kernel
set_option maxRecDepth 1000000 in
theorem lk_t6 : at_chk (at_CM ++ at_CA.take 6) at_JT 4000 (at_CA.getD 6 at_dC) = true := by decide +kernel
set_option maxRecDepth 1000000 in
theorem lk_t7 : at_chk (at_CM ++ at_CA.take 7) at_JT 4000 (at_CA.getD 7 at_dC) = true := by decide +kernel
set_option maxRecDepth 1000000 in
theorem lk_t8 : at_chk (at_CM ++ at_CA.take 8) at_JT 4000 (at_CA.getD 8 at_dC) = true := by decide +kernel
set_option maxRecDepth 1000000 in
theorem lk_t9 : at_chk (at_CM ++ at_CA.take 9) at_JT 4000 (at_CA.getD 9 at_dC) = true := by decide +kernel
set_option maxRecDepth 1000000 in
theorem lk_t10 : at_chk (at_CM ++ at_CA.take 10) at_JT 4000 (at_CA.getD 10 at_dC) = true := by decide +kernel
set_option maxRecDepth 1000000 in
theorem lk_t11 : at_chk (at_CM ++ at_CA.take 11) at_JT 4000 (at_CA.getD 11 at_dC) = true := by decide +kernel
set_option maxRecDepth 1000000 in
theorem lk_t12 : at_chk (at_CM ++ at_CA.take 12) at_JT 4000 (at_CA.getD 12 at_dC) = true := by decide +kernel
set_option maxRecDepth 1000000 in
theorem lk_t13 : at_chk (at_CM ++ at_CA.take 13) at_JT 4000 (at_CA.getD 13 at_dC) = true := by decide +kernel
set_option maxRecDepth 1000000 in
theorem lk_t14 : at_chk (at_CM ++ at_CA.take 14) at_JT 4000 (at_CA.getD 14 at_dC) = true := by decide +kernel
set_option maxRecDepth 1000000 in
theorem lk_t15 : at_chk (at_CM ++ at_CA.take 15) at_JT 4000 (at_CA.getD 15 at_dC) = true := by decide +kernel
set_option maxRecDepth 1000000 in
theorem lk_t16 : at_chk (at_CM ++ at_CA.take 16) at_JT 4000 (at_CA.getD 16 at_dC) = true := by decide +kernel
set_option maxRecDepth 1000000 in
theorem lk_t17 : at_chk (at_CM ++ at_CA.take 17) at_JT 4000 (at_CA.getD 17 at_dC) = true := by decide +kernel
set_option maxRecDepth 1000000 in
theorem lk_t18 : at_chk (at_CM ++ at_CA.take 18) at_JT 4000 (at_CA.getD 18 at_dC) = true := by decide +kernel
set_option maxRecDepth 1000000 in
theorem lk_t19 : at_chk (at_CM ++ at_CA.take 19) at_JT 4000 (at_CA.getD 19 at_dC) = true := by decide +kernel
set_option maxRecDepth 1000000 in
theorem lk_t20 : at_chk (at_CM ++ at_CA.take 20) at_JT 4000 (at_CA.getD 20 at_dC) = true := by decide +kernel
set_option maxRecDepth 1000000 in
theorem lk_t21 : at_chk (at_CM ++ at_CA.take 21) at_JT 4000 (at_CA.getD 21 at_dC) = true := by decide +kernel
