/-! ===== the looker passes contracts 66 .. 87, one by one ===== -/
set_option maxRecDepth 1000000 in
theorem lk_t66 : at_chk (at_CM ++ at_CA.take 66) at_JT 4000 (at_CA.getD 66 at_dC) = true := by decide +kernel
set_option maxRecDepth 1000000 in
theorem lk_t67 : at_chk (at_CM ++ at_CA.take 67) at_JT 4000 (at_CA.getD 67 at_dC) = true := by decide +kernel
set_option maxRecDepth 1000000 in
theorem lk_t68 : at_chk (at_CM ++ at_CA.take 68) at_JT 4000 (at_CA.getD 68 at_dC) = true := by decide +kernel
set_option maxRecDepth 1000000 in
theorem lk_t69 : at_chk (at_CM ++ at_CA.take 69) at_JT 4000 (at_CA.getD 69 at_dC) = true := by decide +kernel
set_option maxRecDepth 1000000 in
theorem lk_t70 : at_chk (at_CM ++ at_CA.take 70) at_JT 4000 (at_CA.getD 70 at_dC) = true := by decide +kernel
set_option maxRecDepth 1000000 in
theorem lk_t71 : at_chk (at_CM ++ at_CA.take 71) at_JT 4000 (at_CA.getD 71 at_dC) = true := by decide +kernel
set_option maxRecDepth 1000000 in
theorem lk_t72 : at_chk (at_CM ++ at_CA.take 72) at_JT 4000 (at_CA.getD 72 at_dC) = true := by decide +kernel
set_option maxRecDepth 1000000 in
theorem lk_t73 : at_chk (at_CM ++ at_CA.take 73) at_JT 4000 (at_CA.getD 73 at_dC) = true := by decide +kernel
set_option maxRecDepth 1000000 in
theorem lk_t74 : at_chk (at_CM ++ at_CA.take 74) at_JT 4000 (at_CA.getD 74 at_dC) = true := by decide +kernel
set_option maxRecDepth 1000000 in
theorem lk_t75 : at_chk (at_CM ++ at_CA.take 75) at_JT 4000 (at_CA.getD 75 at_dC) = true := by decide +kernel
set_option maxRecDepth 1000000 in
theorem lk_t76 : at_chk (at_CM ++ at_CA.take 76) at_JT 4000 (at_CA.getD 76 at_dC) = true := by decide +kernel
set_option maxRecDepth 1000000 in
theorem lk_t77 : at_chk (at_CM ++ at_CA.take 77) at_JT 4000 (at_CA.getD 77 at_dC) = true := by decide +kernel
set_option maxRecDepth 1000000 in
theorem lk_t78 : at_chk (at_CM ++ at_CA.take 78) at_JT 4000 (at_CA.getD 78 at_dC) = true := by decide +kernel
set_option maxRecDepth 1000000 in
theorem lk_t79 : at_chk (at_CM ++ at_CA.take 79) at_JT 4000 (at_CA.getD 79 at_dC) = true := by decide +kernel
set_option maxRecDepth 1000000 in
theorem lk_t80 : at_chk (at_CM ++ at_CA.take 80) at_JT 4000 (at_CA.getD 80 at_dC) = true := by decide +kernel
set_option maxRecDepth 1000000 in
theorem lk_t81 : at_chk (at_CM ++ at_CA.take 81) at_JT 4000 (at_CA.getD 81 at_dC) = true := by decide +kernel
set_option maxRecDepth 1000000 in
theorem lk_t82 : at_chk (at_CM ++ at_CA.take 82) at_JT 4000 (at_CA.getD 82 at_dC) = true := by decide +kernel
set_option maxRecDepth 1000000 in
theorem lk_t83 : at_chk (at_CM ++ at_CA.take 83) at_JT 4000 (at_CA.getD 83 at_dC) = true := by decide +kernel
set_option maxRecDepth 1000000 in
theorem lk_t84 : at_chk (at_CM ++ at_CA.take 84) at_JT 4000 (at_CA.getD 84 at_dC) = true := by decide +kernel
set_option maxRecDepth 1000000 in
theorem lk_t85 : at_chk (at_CM ++ at_CA.take 85) at_JT 4000 (at_CA.getD 85 at_dC) = true := by decide +kernel
set_option maxRecDepth 1000000 in
theorem lk_t86 : at_chk (at_CM ++ at_CA.take 86) at_JT 4000 (at_CA.getD 86 at_dC) = true := by decide +kernel
set_option maxRecDepth 1000000 in
theorem lk_t87 : at_chk (at_CM ++ at_CA.take 87) at_JT 4000 (at_CA.getD 87 at_dC) = true := by decide +kernel
