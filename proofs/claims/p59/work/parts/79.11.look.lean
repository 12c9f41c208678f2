/-! ===== the looker passes contracts 154 .. 175, one by one ===== -/
set_option maxRecDepth 1000000 in
theorem lk_t154 : at_chk (at_CM ++ at_CA.take 154) at_JT 4000 (at_CA.getD 154 at_dC) = true := by decide +kernel
set_option maxRecDepth 1000000 in
theorem lk_t155 : at_chk (at_CM ++ at_CA.take 155) at_JT 4000 (at_CA.getD 155 at_dC) = true := by decide +kernel
set_option maxRecDepth 1000000 in
theorem lk_t156 : at_chk (at_CM ++ at_CA.take 156) at_JT 4000 (at_CA.getD 156 at_dC) = true := by decide +kernel
set_option maxRecDepth 1000000 in
theorem lk_t157 : at_chk (at_CM ++ at_CA.take 157) at_JT 4000 (at_CA.getD 157 at_dC) = true := by decide +kernel
set_option maxRecDepth 1000000 in
theorem lk_t158 : at_chk (at_CM ++ at_CA.take 158) at_JT 4000 (at_CA.getD 158 at_dC) = true := by decide +kernel
set_option maxRecDepth 1000000 in
theorem lk_t159 : at_chk (at_CM ++ at_CA.take 159) at_JT 4000 (at_CA.getD 159 at_dC) = true := by decide +kernel
set_option maxRecDepth 1000000 in
theorem lk_t160 : at_chk (at_CM ++ at_CA.take 160) at_JT 4000 (at_CA.getD 160 at_dC) = true := by decide +kernel
set_option maxRecDepth 1000000 in
theorem lk_t161 : at_chk (at_CM ++ at_CA.take 161) at_JT 4000 (at_CA.getD 161 at_dC) = true := by decide +kernel
set_option maxRecDepth 1000000 in
theorem lk_t162 : at_chk (at_CM ++ at_CA.take 162) at_JT 4000 (at_CA.getD 162 at_dC) = true := by decide +kernel
set_option maxRecDepth 1000000 in
theorem lk_t163 : at_chk (at_CM ++ at_CA.take 163) at_JT 4000 (at_CA.getD 163 at_dC) = true := by decide +kernel
set_option maxRecDepth 1000000 in
theorem lk_t164 : at_chk (at_CM ++ at_CA.take 164) at_JT 4000 (at_CA.getD 164 at_dC) = true := by decide +kernel
set_option maxRecDepth 1000000 in
theorem lk_t165 : at_chk (at_CM ++ at_CA.take 165) at_JT 4000 (at_CA.getD 165 at_dC) = true := by decide +kernel
set_option maxRecDepth 1000000 in
theorem lk_t166 : at_chk (at_CM ++ at_CA.take 166) at_JT 4000 (at_CA.getD 166 at_dC) = true := by decide +kernel
set_option maxRecDepth 1000000 in
theorem lk_t167 : at_chk (at_CM ++ at_CA.take 167) at_JT 4000 (at_CA.getD 167 at_dC) = true := by decide +kernel
set_option maxRecDepth 1000000 in
theorem lk_t168 : at_chk (at_CM ++ at_CA.take 168) at_JT 4000 (at_CA.getD 168 at_dC) = true := by decide +kernel
set_option maxRecDepth 1000000 in
theorem lk_t169 : at_chk (at_CM ++ at_CA.take 169) at_JT 4000 (at_CA.getD 169 at_dC) = true := by decide +kernel
set_option maxRecDepth 1000000 in
theorem lk_t170 : at_chk (at_CM ++ at_CA.take 170) at_JT 4000 (at_CA.getD 170 at_dC) = true := by decide +kernel
set_option maxRecDepth 1000000 in
theorem lk_t171 : at_chk (at_CM ++ at_CA.take 171) at_JT 4000 (at_CA.getD 171 at_dC) = true := by decide +kernel
set_option maxRecDepth 1000000 in
theorem lk_t172 : at_chk (at_CM ++ at_CA.take 172) at_JT 4000 (at_CA.getD 172 at_dC) = true := by decide +kernel
set_option maxRecDepth 1000000 in
theorem lk_t173 : at_chk (at_CM ++ at_CA.take 173) at_JT 4000 (at_CA.getD 173 at_dC) = true := by decide +kernel
set_option maxRecDepth 1000000 in
theorem lk_t174 : at_chk (at_CM ++ at_CA.take 174) at_JT 4000 (at_CA.getD 174 at_dC) = true := by decide +kernel
set_option maxRecDepth 1000000 in
theorem lk_t175 : at_chk (at_CM ++ at_CA.take 175) at_JT 4000 (at_CA.getD 175 at_dC) = true := by decide +kernel
