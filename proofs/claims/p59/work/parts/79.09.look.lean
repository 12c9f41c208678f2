/-! ===== the looker passes contracts 110 .. 131, one by one ===== -/
set_option maxRecDepth 1000000 in
theorem lk_t110 : at_chk (at_CM ++ at_CA.take 110) at_JT 4000 (at_CA.getD 110 at_dC) = true := by decide +kernel
set_option maxRecDepth 1000000 in
theorem lk_t111 : at_chk (at_CM ++ at_CA.take 111) at_JT 4000 (at_CA.getD 111 at_dC) = true := by decide +kernel
set_option maxRecDepth 1000000 in
theorem lk_t112 : at_chk (at_CM ++ at_CA.take 112) at_JT 4000 (at_CA.getD 112 at_dC) = true := by decide +kernel
set_option maxRecDepth 1000000 in
theorem lk_t113 : at_chk (at_CM ++ at_CA.take 113) at_JT 4000 (at_CA.getD 113 at_dC) = true := by decide +kernel
set_option maxRecDepth 1000000 in
theorem lk_t114 : at_chk (at_CM ++ at_CA.take 114) at_JT 4000 (at_CA.getD 114 at_dC) = true := by decide +kernel
set_option maxRecDepth 1000000 in
theorem lk_t115 : at_chk (at_CM ++ at_CA.take 115) at_JT 4000 (at_CA.getD 115 at_dC) = true := by decide +kernel
set_option maxRecDepth 1000000 in
theorem lk_t116 : at_chk (at_CM ++ at_CA.take 116) at_JT 4000 (at_CA.getD 116 at_dC) = true := by decide +kernel
set_option maxRecDepth 1000000 in
theorem lk_t117 : at_chk (at_CM ++ at_CA.take 117) at_JT 4000 (at_CA.getD 117 at_dC) = true := by decide +kernel
set_option maxRecDepth 1000000 in
theorem lk_t118 : at_chk (at_CM ++ at_CA.take 118) at_JT 4000 (at_CA.getD 118 at_dC) = true := by decide +kernel
set_option maxRecDepth 1000000 in
theorem lk_t119 : at_chk (at_CM ++ at_CA.take 119) at_JT 4000 (at_CA.getD 119 at_dC) = true := by decide +kernel
set_option maxRecDepth 1000000 in
theorem lk_t120 : at_chk (at_CM ++ at_CA.take 120) at_JT 4000 (at_CA.getD 120 at_dC) = true := by decide +kernel
set_option maxRecDepth 1000000 in
theorem lk_t121 : at_chk (at_CM ++ at_CA.take 121) at_JT 4000 (at_CA.getD 121 at_dC) = true := by decide +kernel
set_option maxRecDepth 1000000 in
theorem lk_t122 : at_chk (at_CM ++ at_CA.take 122) at_JT 4000 (at_CA.getD 122 at_dC) = true := by decide +kernel
set_option maxRecDepth 1000000 in
theorem lk_t123 : at_chk (at_CM ++ at_CA.take 123) at_JT 4000 (at_CA.getD 123 at_dC) = true := by decide +kernel
set_option maxRecDepth 1000000 in
theorem lk_t124 : at_chk (at_CM ++ at_CA.take 124) at_JT 4000 (at_CA.getD 124 at_dC) = true := by decide +kernel
set_option maxRecDepth 1000000 in
theorem lk_t125 : at_chk (at_CM ++ at_CA.take 125) at_JT 4000 (at_CA.getD 125 at_dC) = true := by decide +kernel
set_option maxRecDepth 1000000 in
theorem lk_t126 : at_chk (at_CM ++ at_CA.take 126) at_JT 4000 (at_CA.getD 126 at_dC) = true := by decide +kernel
set_option maxRecDepth 1000000 in
theorem lk_t127 : at_chk (at_CM ++ at_CA.take 127) at_JT 4000 (at_CA.getD 127 at_dC) = true := by decide +kernel
set_option maxRecDepth 1000000 in
theorem lk_t128 : at_chk (at_CM ++ at_CA.take 128) at_JT 4000 (at_CA.getD 128 at_dC) = true := by decide +kernel
set_option maxRecDepth 1000000 in
theorem lk_t129 : at_chk (at_CM ++ at_CA.take 129) at_JT 4000 (at_CA.getD 129 at_dC) = true := by decide +kernel
set_option maxRecDepth 1000000 in
theorem lk_t130 : at_chk (at_CM ++ at_CA.take 130) at_JT 4000 (at_CA.getD 130 at_dC) = true := by decide +kernel
set_option maxRecDepth 1000000 in
theorem lk_t131 : at_chk (at_CM ++ at_CA.take 131) at_JT 4000 (at_CA.getD 131 at_dC) = true := by decide +kernel
