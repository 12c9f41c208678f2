/-! ===== the looker passes contracts 132 .. 153, one by one ===== -/
set_option maxRecDepth 1000000 in
theorem lk_t132 : at_chk (at_CM ++ at_CA.take 132) at_JT 4000 (at_CA.getD 132 at_dC) = true := by decide +kernel
set_option maxRecDepth 1000000 in
theorem lk_t133 : at_chk (at_CM ++ at_CA.take 133) at_JT 4000 (at_CA.getD 133 at_dC) = true := by decide +kernel
set_option maxRecDepth 1000000 in
theorem lk_t134 : at_chk (at_CM ++ at_CA.take 134) at_JT 4000 (at_CA.getD 134 at_dC) = true := by decide +kernel
set_option maxRecDepth 1000000 in
theorem lk_t135 : at_chk (at_CM ++ at_CA.take 135) at_JT 4000 (at_CA.getD 135 at_dC) = true := by decide +kernel
set_option maxRecDepth 1000000 in
theorem lk_t136 : at_chk (at_CM ++ at_CA.take 136) at_JT 4000 (at_CA.getD 136 at_dC) = true := by decide +kernel
set_option maxRecDepth 1000000 in
theorem lk_t137 : at_chk (at_CM ++ at_CA.take 137) at_JT 4000 (at_CA.getD 137 at_dC) = true := by decide +kernel
set_option maxRecDepth 1000000 in
theorem lk_t138 : at_chk (at_CM ++ at_CA.take 138) at_JT 4000 (at_CA.getD 138 at_dC) = true := by decide +kernel
set_option maxRecDepth 1000000 in
theorem lk_t139 : at_chk (at_CM ++ at_CA.take 139) at_JT 4000 (at_CA.getD 139 at_dC) = true := by decide +kernel
set_option maxRecDepth 1000000 in
theorem lk_t140 : at_chk (at_CM ++ at_CA.take 140) at_JT 4000 (at_CA.getD 140 at_dC) = true := by decide +kernel
set_option maxRecDepth 1000000 in
theorem lk_t141 : at_chk (at_CM ++ at_CA.take 141) at_JT 4000 (at_CA.getD 141 at_dC) = true := by decide +kernel
set_option maxRecDepth 1000000 in
theorem lk_t142 : at_chk (at_CM ++ at_CA.take 142) at_JT 4000 (at_CA.getD 142 at_dC) = true := by decide +kernel
set_option maxRecDepth 1000000 in
theorem lk_t143 : at_chk (at_CM ++ at_CA.take 143) at_JT 4000 (at_CA.getD 143 at_dC) = true := by decide +kernel
set_option maxRecDepth 1000000 in
theorem lk_t144 : at_chk (at_CM ++ at_CA.take 144) at_JT 4000 (at_CA.getD 144 at_dC) = true := by decide +kernel
set_option maxRecDepth 1000000 in
theorem lk_t145 : at_chk (at_CM ++ at_CA.take 145) at_JT 4000 (at_CA.getD 145 at_dC) = true := by decide +kernel
set_option maxRecDepth 1000000 in
theorem lk_t146 : at_chk (at_CM ++ at_CA.take 146) at_JT 4000 (at_CA.getD 146 at_dC) = true := by decide +kernel
set_option maxRecDepth 1000000 in
theorem lk_t147 : at_chk (at_CM ++ at_CA.take 147) at_JT 4000 (at_CA.getD 147 at_dC) = true := by decide +kernel
set_option maxRecDepth 1000000 in
theorem lk_t148 : at_chk (at_CM ++ at_CA.take 148) at_JT 4000 (at_CA.getD 148 at_dC) = true := by decide +kernel
set_option maxRecDepth 1000000 in
theorem lk_t149 : at_chk (at_CM ++ at_CA.take 149) at_JT 4000 (at_CA.getD 149 at_dC) = true := by decide +kernel
set_option maxRecDepth 1000000 in
theorem lk_t150 : at_chk (at_CM ++ at_CA.take 150) at_JT 4000 (at_CA.getD 150 at_dC) = true := by decide +kernel
set_option maxRecDepth 1000000 in
theorem lk_t151 : at_chk (at_CM ++ at_CA.take 151) at_JT 4000 (at_CA.getD 151 at_dC) = true := by decide +kernel
set_option maxRecDepth 1000000 in
theorem lk_t152 : at_chk (at_CM ++ at_CA.take 152) at_JT 4000 (at_CA.getD 152 at_dC) = true := by decide +kernel
set_option maxRecDepth 1000000 in
theorem lk_t153 : at_chk (at_CM ++ at_CA.take 153) at_JT 4000 (at_CA.getD 153 at_dC) = true := by decide +kernel
