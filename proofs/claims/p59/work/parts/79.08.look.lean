/-! ===== the looker passes contracts 88 .. 109, one by one ===== -/
set_option maxRecDepth 1000000 in
theorem lk_t88 : at_chk (at_CM ++ at_CA.take 88) at_JT 4000 (at_CA.getD 88 at_dC) = true := by decide +kernel
set_option maxRecDepth 1000000 in
theorem lk_t89 : at_chk (at_CM ++ at_CA.take 89) at_JT 4000 (at_CA.getD 89 at_dC) = true := by decide +kernel
set_option maxRecDepth 1000000 in
theorem lk_t90 : at_chk (at_CM ++ at_CA.take 90) at_JT 4000 (at_CA.getD 90 at_dC) = true := by decide +kernel
set_option maxRecDepth 1000000 in
theorem lk_t91 : at_chk (at_CM ++ at_CA.take 91) at_JT 4000 (at_CA.getD 91 at_dC) = true := by decide +kernel
set_option maxRecDepth 1000000 in
theorem lk_t92 : at_chk (at_CM ++ at_CA.take 92) at_JT 4000 (at_CA.getD 92 at_dC) = true := by decide +kernel
set_option maxRecDepth 1000000 in
theorem lk_t93 : at_chk (at_CM ++ at_CA.take 93) at_JT 4000 (at_CA.getD 93 at_dC) = true := by decide +kernel
set_option maxRecDepth 1000000 in
theorem lk_t94 : at_chk (at_CM ++ at_CA.take 94) at_JT 4000 (at_CA.getD 94 at_dC) = true := by decide +kernel
set_option maxRecDepth 1000000 in
theorem lk_t95 : at_chk (at_CM ++ at_CA.take 95) at_JT 4000 (at_CA.getD 95 at_dC) = true := by decide +kernel
set_option maxRecDepth 1000000 in
theorem lk_t96 : at_chk (at_CM ++ at_CA.take 96) at_JT 4000 (at_CA.getD 96 at_dC) = true := by decide +kernel
set_option maxRecDepth 1000000 in
theorem lk_t97 : at_chk (at_CM ++ at_CA.take 97) at_JT 4000 (at_CA.getD 97 at_dC) = true := by decide +kernel
set_option maxRecDepth 1000000 in
theorem lk_t98 : at_chk (at_CM ++ at_CA.take 98) at_JT 4000 (at_CA.getD 98 at_dC) = true := by decide +kernel
set_option maxRecDepth 1000000 in
theorem lk_t99 : at_chk (at_CM ++ at_CA.take 99) at_JT 4000 (at_CA.getD 99 at_dC) = true := by decide +kernel
set_option maxRecDepth 1000000 in
theorem lk_t100 : at_chk (at_CM ++ at_CA.take 100) at_JT 4000 (at_CA.getD 100 at_dC) = true := by decide +kernel
set_option maxRecDepth 1000000 in
theorem lk_t101 : at_chk (at_CM ++ at_CA.take 101) at_JT 4000 (at_CA.getD 101 at_dC) = true := by decide +kernel
set_option maxRecDepth 1000000 in
theorem lk_t102 : at_chk (at_CM ++ at_CA.take 102) at_JT 4000 (at_CA.getD 102 at_dC) = true := by decide +kernel
set_option maxRecDepth 1000000 in
theorem lk_t103 : at_chk (at_CM ++ at_CA.take 103) at_JT 4000 (at_CA.getD 103 at_dC) = true := by decide +kernel
set_option maxRecDepth 1000000 in
theorem lk_t104 : at_chk (at_CM ++ at_CA.take 104) at_JT 4000 (at_CA.getD 104 at_dC) = true := by decide +kernel
set_option maxRecDepth 1000000 in
theorem lk_t105 : at_chk (at_CM ++ at_CA.take 105) at_JT 4000 (at_CA.getD 105 at_dC) = true := by decide +kernel
set_option maxRecDepth 1000000 in
theorem lk_t106 : at_chk (at_CM ++ at_CA.take 106) at_JT 4000 (at_CA.getD 106 at_dC) = true := by decide +kernel
set_option maxRecDepth 1000000 in
theorem lk_t107 : at_chk (at_CM ++ at_CA.take 107) at_JT 4000 (at_CA.getD 107 at_dC) = true := by decide +kernel
set_option maxRecDepth 1000000 in
theorem lk_t108 : at_chk (at_CM ++ at_CA.take 108) at_JT 4000 (at_CA.getD 108 at_dC) = true := by decide +kernel
set_option maxRecDepth 1000000 in
theorem lk_t109 : at_chk (at_CM ++ at_CA.take 109) at_JT 4000 (at_CA.getD 109 at_dC) = true := by decide +kernel
