/-! ===== the looker passes contracts 220 .. 241, one by one ===== -/
set_option maxRecDepth 1000000 in
theorem lk_t220 : at_chk (at_CM ++ at_CA.take 220) at_JT 4000 (at_CA.getD 220 at_dC) = true := by decide +kernel
set_option maxRecDepth 1000000 in
theorem lk_t221 : at_chk (at_CM ++ at_CA.take 221) at_JT 4000 (at_CA.getD 221 at_dC) = true := by decide +kernel
set_option maxRecDepth 1000000 in
theorem lk_t222 : at_chk (at_CM ++ at_CA.take 222) at_JT 4000 (at_CA.getD 222 at_dC) = true := by decide +kernel
set_option maxRecDepth 1000000 in
theorem lk_t223 : at_chk (at_CM ++ at_CA.take 223) at_JT 4000 (at_CA.getD 223 at_dC) = true := by decide +kernel
set_option maxRecDepth 1000000 in
theorem lk_t224 : at_chk (at_CM ++ at_CA.take 224) at_JT 4000 (at_CA.getD 224 at_dC) = true := by decide +kernel
set_option maxRecDepth 1000000 in
theorem lk_t225 : at_chk (at_CM ++ at_CA.take 225) at_JT 4000 (at_CA.getD 225 at_dC) = true := by decide +kernel
set_option maxRecDepth 1000000 in
theorem lk_t226 : at_chk (at_CM ++ at_CA.take 226) at_JT 4000 (at_CA.getD 226 at_dC) = true := by decide +kernel
set_option maxRecDepth 1000000 in
theorem lk_t227 : at_chk (at_CM ++ at_CA.take 227) at_JT 4000 (at_CA.getD 227 at_dC) = true := by decide +kernel
set_option maxRecDepth 1000000 in
theorem lk_t228 : at_chk (at_CM ++ at_CA.take 228) at_JT 4000 (at_CA.getD 228 at_dC) = true := by decide +kernel
set_option maxRecDepth 1000000 in
theorem lk_t229 : at_chk (at_CM ++ at_CA.take 229) at_JT 4000 (at_CA.getD 229 at_dC) = true := by decide +kernel
set_option maxRecDepth 1000000 in
theorem lk_t230 : at_chk (at_CM ++ at_CA.take 230) at_JT 4000 (at_CA.getD 230 at_dC) = true := by decide +kernel
set_option maxRecDepth 1000000 in
theorem lk_t231 : at_chk (at_CM ++ at_CA.take 231) at_JT 4000 (at_CA.getD 231 at_dC) = true := by decide +kernel
set_option maxRecDepth 1000000 in
theorem lk_t232 : at_chk (at_CM ++ at_CA.take 232) at_JT 4000 (at_CA.getD 232 at_dC) = true := by decide +kernel
set_option maxRecDepth 1000000 in
theorem lk_t233 : at_chk (at_CM ++ at_CA.take 233) at_JT 4000 (at_CA.getD 233 at_dC) = true := by decide +kernel
set_option maxRecDepth 1000000 in
theorem lk_t234 : at_chk (at_CM ++ at_CA.take 234) at_JT 4000 (at_CA.getD 234 at_dC) = true := by decide +kernel
set_option maxRecDepth 1000000 in
theorem lk_t235 : at_chk (at_CM ++ at_CA.take 235) at_JT 4000 (at_CA.getD 235 at_dC) = true := by decide +kernel
set_option maxRecDepth 1000000 in
theorem lk_t236 : at_chk (at_CM ++ at_CA.take 236) at_JT 4000 (at_CA.getD 236 at_dC) = true := by decide +kernel
set_option maxRecDepth 1000000 in
theorem lk_t237 : at_chk (at_CM ++ at_CA.take 237) at_JT 4000 (at_CA.getD 237 at_dC) = true := by decide +kernel
set_option maxRecDepth 1000000 in
theorem lk_t238 : at_chk (at_CM ++ at_CA.take 238) at_JT 4000 (at_CA.getD 238 at_dC) = true := by decide +kernel
set_option maxRecDepth 1000000 in
theorem lk_t239 : at_chk (at_CM ++ at_CA.take 239) at_JT 4000 (at_CA.getD 239 at_dC) = true := by decide +kernel
set_option maxRecDepth 1000000 in
theorem lk_t240 : at_chk (at_CM ++ at_CA.take 240) at_JT 4000 (at_CA.getD 240 at_dC) = true := by decide +kernel
set_option maxRecDepth 1000000 in
theorem lk_t241 : at_chk (at_CM ++ at_CA.take 241) at_JT 4000 (at_CA.getD 241 at_dC) = true := by decide +kernel
