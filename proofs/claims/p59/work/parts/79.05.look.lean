/-! ===== the looker passes contracts 22 .. 43, one by one ===== -/
set_option maxRecDepth 1000000 in
theorem lk_t22 : at_chk (at_CM ++ at_CA.take 22) at_JT 4000 (at_CA.getD 22 at_dC) = true := by decide +kernel
set_option maxRecDepth 1000000 in
theorem lk_t23 : at_chk (at_CM ++ at_CA.take 23) at_JT 4000 (at_CA.getD 23 at_dC) = true := by decide +kernel
set_option maxRecDepth 1000000 in
theorem lk_t24 : at_chk (at_CM ++ at_CA.take 24) at_JT 4000 (at_CA.getD 24 at_dC) = true := by decide +kernel
set_option maxRecDepth 1000000 in
theorem lk_t25 : at_chk (at_CM ++ at_CA.take 25) at_JT 4000 (at_CA.getD 25 at_dC) = true := by decide +kernel
set_option maxRecDepth 1000000 in
theorem lk_t26 : at_chk (at_CM ++ at_CA.take 26) at_JT 4000 (at_CA.getD 26 at_dC) = true := by decide +kernel
set_option maxRecDepth 1000000 in
theorem lk_t27 : at_chk (at_CM ++ at_CA.take 27) at_JT 4000 (at_CA.getD 27 at_dC) = true := by decide +kernel
set_option maxRecDepth 1000000 in
theorem lk_t28 : at_chk (at_CM ++ at_CA.take 28) at_JT 4000 (at_CA.getD 28 at_dC) = true := by decide +kernel
set_option maxRecDepth 1000000 in
theorem lk_t29 : at_chk (at_CM ++ at_CA.take 29) at_JT 4000 (at_CA.getD 29 at_dC) = true := by decide +kernel
set_option maxRecDepth 1000000 in
theorem lk_t30 : at_chk (at_CM ++ at_CA.take 30) at_JT 4000 (at_CA.getD 30 at_dC) = true := by decide +kernel
set_option maxRecDepth 1000000 in
theorem lk_t31 : at_chk (at_CM ++ at_CA.take 31) at_JT 4000 (at_CA.getD 31 at_dC) = true := by decide +kernel
set_option maxRecDepth 1000000 in
theorem lk_t32 : at_chk (at_CM ++ at_CA.take 32) at_JT 4000 (at_CA.getD 32 at_dC) = true := by decide +kernel
set_option maxRecDepth 1000000 in
theorem lk_t33 : at_chk (at_CM ++ at_CA.take 33) at_JT 4000 (at_CA.getD 33 at_dC) = true := by decide +kernel
set_option maxRecDepth 1000000 in
theorem lk_t34 : at_chk (at_CM ++ at_CA.take 34) at_JT 4000 (at_CA.getD 34 at_dC) = true := by decide +kernel
set_option maxRecDepth 1000000 in
theorem lk_t35 : at_chk (at_CM ++ at_CA.take 35) at_JT 4000 (at_CA.getD 35 at_dC) = true := by decide +kernel
set_option maxRecDepth 1000000 in
theorem lk_t36 : at_chk (at_CM ++ at_CA.take 36) at_JT 4000 (at_CA.getD 36 at_dC) = true := by decide +kernel
set_option maxRecDepth 1000000 in
theorem lk_t37 : at_chk (at_CM ++ at_CA.take 37) at_JT 4000 (at_CA.getD 37 at_dC) = true := by decide +kernel
set_option maxRecDepth 1000000 in
theorem lk_t38 : at_chk (at_CM ++ at_CA.take 38) at_JT 4000 (at_CA.getD 38 at_dC) = true := by decide +kernel
set_option maxRecDepth 1000000 in
theorem lk_t39 : at_chk (at_CM ++ at_CA.take 39) at_JT 4000 (at_CA.getD 39 at_dC) = true := by decide +kernel
set_option maxRecDepth 1000000 in
theorem lk_t40 : at_chk (at_CM ++ at_CA.take 40) at_JT 4000 (at_CA.getD 40 at_dC) = true := by decide +kernel
set_option maxRecDepth 1000000 in
theorem lk_t41 : at_chk (at_CM ++ at_CA.take 41) at_JT 4000 (at_CA.getD 41 at_dC) = true := by decide +kernel
set_option maxRecDepth 1000000 in
theorem lk_t42 : at_chk (at_CM ++ at_CA.take 42) at_JT 4000 (at_CA.getD 42 at_dC) = true := by decide +kernel
set_option maxRecDepth 1000000 in
theorem lk_t43 : at_chk (at_CM ++ at_CA.take 43) at_JT 4000 (at_CA.getD 43 at_dC) = true := by decide +kernel
