/-! ===== the looker passes contracts 242 .. 263, one by one ===== -/
set_option maxRecDepth 1000000 in
theorem lk_t242 : at_chk (at_CM ++ at_CA.take 242) at_JT 4000 (at_CA.getD 242 at_dC) = true := by decide +kernel
set_option maxRecDepth 1000000 in
theorem lk_t243 : at_chk (at_CM ++ at_CA.take 243) at_JT 4000 (at_CA.getD 243 at_dC) = true := by decide +kernel
set_option maxRecDepth 1000000 in
theorem lk_t244 : at_chk (at_CM ++ at_CA.take 244) at_JT 4000 (at_CA.getD 244 at_dC) = true := by decide +kernel
set_option maxRecDepth 1000000 in
theorem lk_t245 : at_chk (at_CM ++ at_CA.take 245) at_JT 4000 (at_CA.getD 245 at_dC) = true := by decide +kernel
set_option maxRecDepth 1000000 in
theorem lk_t246 : at_chk (at_CM ++ at_CA.take 246) at_JT 4000 (at_CA.getD 246 at_dC) = true := by decide +kernel
set_option maxRecDepth 1000000 in
theorem lk_t247 : at_chk (at_CM ++ at_CA.take 247) at_JT 4000 (at_CA.getD 247 at_dC) = true := by decide +kernel
set_option maxRecDepth 1000000 in
theorem lk_t248 : at_chk (at_CM ++ at_CA.take 248) at_JT 4000 (at_CA.getD 248 at_dC) = true := by decide +kernel
set_option maxRecDepth 1000000 in
theorem lk_t249 : at_chk (at_CM ++ at_CA.take 249) at_JT 4000 (at_CA.getD 249 at_dC) = true := by decide +kernel
set_option maxRecDepth 1000000 in
theorem lk_t250 : at_chk (at_CM ++ at_CA.take 250) at_JT 4000 (at_CA.getD 250 at_dC) = true := by decide +kernel
set_option maxRecDepth 1000000 in
theorem lk_t251 : at_chk (at_CM ++ at_CA.take 251) at_JT 4000 (at_CA.getD 251 at_dC) = true := by decide +kernel
set_option maxRecDepth 1000000 in
theorem lk_t252 : at_chk (at_CM ++ at_CA.take 252) at_JT 4000 (at_CA.getD 252 at_dC) = true := by decide +kernel
set_option maxRecDepth 1000000 in
theorem lk_t253 : at_chk (at_CM ++ at_CA.take 253) at_JT 4000 (at_CA.getD 253 at_dC) = true := by decide +kernel
set_option maxRecDepth 1000000 in
theorem lk_t254 : at_chk (at_CM ++ at_CA.take 254) at_JT 4000 (at_CA.getD 254 at_dC) = true := by decide +kernel
set_option maxRecDepth 1000000 in
theorem lk_t255 : at_chk (at_CM ++ at_CA.take 255) at_JT 4000 (at_CA.getD 255 at_dC) = true := by decide +kernel
set_option maxRecDepth 1000000 in
theorem lk_t256 : at_chk (at_CM ++ at_CA.take 256) at_JT 4000 (at_CA.getD 256 at_dC) = true := by decide +kernel
set_option maxRecDepth 1000000 in
theorem lk_t257 : at_chk (at_CM ++ at_CA.take 257) at_JT 4000 (at_CA.getD 257 at_dC) = true := by decide +kernel
set_option maxRecDepth 1000000 in
theorem lk_t258 : at_chk (at_CM ++ at_CA.take 258) at_JT 4000 (at_CA.getD 258 at_dC) = true := by decide +kernel
set_option maxRecDepth 1000000 in
theorem lk_t259 : at_chk (at_CM ++ at_CA.take 259) at_JT 4000 (at_CA.getD 259 at_dC) = true := by decide +kernel
set_option maxRecDepth 1000000 in
theorem lk_t260 : at_chk (at_CM ++ at_CA.take 260) at_JT 4000 (at_CA.getD 260 at_dC) = true := by decide +kernel
set_option maxRecDepth 1000000 in
theorem lk_t261 : at_chk (at_CM ++ at_CA.take 261) at_JT 4000 (at_CA.getD 261 at_dC) = true := by decide +kernel
set_option maxRecDepth 1000000 in
theorem lk_t262 : at_chk (at_CM ++ at_CA.take 262) at_JT 4000 (at_CA.getD 262 at_dC) = true := by decide +kernel
set_option maxRecDepth 1000000 in
theorem lk_t263 : at_chk (at_CM ++ at_CA.take 263) at_JT 4000 (at_CA.getD 263 at_dC) = true := by decide +kernel
