/-! ===== the looker passes contracts 44 .. 65, one by one ===== -/
set_option maxRecDepth 1000000 in
theorem lk_t44 : at_chk (at_CM ++ at_CA.take 44) at_JT 4000 (at_CA.getD 44 at_dC) = true := by decide +kernel
set_option maxRecDepth 1000000 in
theorem lk_t45 : at_chk (at_CM ++ at_CA.take 45) at_JT 4000 (at_CA.getD 45 at_dC) = true := by decide +kernel
set_option maxRecDepth 1000000 in
theorem lk_t46 : at_chk (at_CM ++ at_CA.take 46) at_JT 4000 (at_CA.getD 46 at_dC) = true := by decide +kernel
set_option maxRecDepth 1000000 in
theorem lk_t47 : at_chk (at_CM ++ at_CA.take 47) at_JT 4000 (at_CA.getD 47 at_dC) = true := by decide +kernel
set_option maxRecDepth 1000000 in
theorem lk_t48 : at_chk (at_CM ++ at_CA.take 48) at_JT 4000 (at_CA.getD 48 at_dC) = true := by decide +kernel
set_option maxRecDepth 1000000 in
theorem lk_t49 : at_chk (at_CM ++ at_CA.take 49) at_JT 4000 (at_CA.getD 49 at_dC) = true := by decide +kernel
set_option maxRecDepth 1000000 in
theorem lk_t50 : at_chk (at_CM ++ at_CA.take 50) at_JT 4000 (at_CA.getD 50 at_dC) = true := by decide +kernel
set_option maxRecDepth 1000000 in
theorem lk_t51 : at_chk (at_CM ++ at_CA.take 51) at_JT 4000 (at_CA.getD 51 at_dC) = true := by decide +kernel
set_option maxRecDepth 1000000 in
theorem lk_t52 : at_chk (at_CM ++ at_CA.take 52) at_JT 4000 (at_CA.getD 52 at_dC) = true := by decide +kernel
set_option maxRecDepth 1000000 in
theorem lk_t53 : at_chk (at_CM ++ at_CA.take 53) at_JT 4000 (at_CA.getD 53 at_dC) = true := by decide +kernel
set_option maxRecDepth 1000000 in
theorem lk_t54 : at_chk (at_CM ++ at_CA.take 54) at_JT 4000 (at_CA.getD 54 at_dC) = true := by decide +kernel
set_option maxRecDepth 1000000 in
theorem lk_t55 : at_chk (at_CM ++ at_CA.take 55) at_JT 4000 (at_CA.getD 55 at_dC) = true := by decide +kernel
set_option maxRecDepth 1000000 in
theorem lk_t56 : at_chk (at_CM ++ at_CA.take 56) at_JT 4000 (at_CA.getD 56 at_dC) = true := by decide +kernel
set_option maxRecDepth 1000000 in
theorem lk_t57 : at_chk (at_CM ++ at_CA.take 57) at_JT 4000 (at_CA.getD 57 at_dC) = true := by decide +kernel
set_option maxRecDepth 1000000 in
theorem lk_t58 : at_chk (at_CM ++ at_CA.take 58) at_JT 4000 (at_CA.getD 58 at_dC) = true := by decide +kernel
set_option maxRecDepth 1000000 in
theorem lk_t59 : at_chk (at_CM ++ at_CA.take 59) at_JT 4000 (at_CA.getD 59 at_dC) = true := by decide +kernel
set_option maxRecDepth 1000000 in
theorem lk_t60 : at_chk (at_CM ++ at_CA.take 60) at_JT 4000 (at_CA.getD 60 at_dC) = true := by decide +kernel
set_option maxRecDepth 1000000 in
theorem lk_t61 : at_chk (at_CM ++ at_CA.take 61) at_JT 4000 (at_CA.getD 61 at_dC) = true := by decide +kernel
set_option maxRecDepth 1000000 in
theorem lk_t62 : at_chk (at_CM ++ at_CA.take 62) at_JT 4000 (at_CA.getD 62 at_dC) = true := by decide +kernel
set_option maxRecDepth 1000000 in
theorem lk_t63 : at_chk (at_CM ++ at_CA.take 63) at_JT 4000 (at_CA.getD 63 at_dC) = true := by decide +kernel
set_option maxRecDepth 1000000 in
theorem lk_t64 : at_chk (at_CM ++ at_CA.take 64) at_JT 4000 (at_CA.getD 64 at_dC) = true := by decide +kernel
set_option maxRecDepth 1000000 in
theorem lk_t65 : at_chk (at_CM ++ at_CA.take 65) at_JT 4000 (at_CA.getD 65 at_dC) = true := by decide +kernel
