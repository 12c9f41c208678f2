/-! ===== the looker passes contracts 198 .. 219, one by one ===== -/
set_option maxRecDepth 1000000 in
theorem lk_t198 : at_chk (at_CM ++ at_CA.take 198) at_JT 4000 (at_CA.getD 198 at_dC) = true := by decide +kernel
set_option maxRecDepth 1000000 in
theorem lk_t199 : at_chk (at_CM ++ at_CA.take 199) at_JT 4000 (at_CA.getD 199 at_dC) = true := by decide +kernel
set_option maxRecDepth 1000000 in
theorem lk_t200 : at_chk (at_CM ++ at_CA.take 200) at_JT 4000 (at_CA.getD 200 at_dC) = true := by decide +kernel
set_option maxRecDepth 1000000 in
theorem lk_t201 : at_chk (at_CM ++ at_CA.take 201) at_JT 4000 (at_CA.getD 201 at_dC) = true := by decide +kernel
set_option maxRecDepth 1000000 in
theorem lk_t202 : at_chk (at_CM ++ at_CA.take 202) at_JT 4000 (at_CA.getD 202 at_dC) = true := by decide +kernel
set_option maxRecDepth 1000000 in
theorem lk_t203 : at_chk (at_CM ++ at_CA.take 203) at_JT 4000 (at_CA.getD 203 at_dC) = true := by decide +kernel
set_option maxRecDepth 1000000 in
theorem lk_t204 : at_chk (at_CM ++ at_CA.take 204) at_JT 4000 (at_CA.getD 204 at_dC) = true := by decide +kernel
set_option maxRecDepth 1000000 in
theorem lk_t205 : at_chk (at_CM ++ at_CA.take 205) at_JT 4000 (at_CA.getD 205 at_dC) = true := by decide +kernel
set_option maxRecDepth 1000000 in
theorem lk_t206 : at_chk (at_CM ++ at_CA.take 206) at_JT 4000 (at_CA.getD 206 at_dC) = true := by decide +kernel
set_option maxRecDepth 1000000 in
theorem lk_t207 : at_chk (at_CM ++ at_CA.take 207) at_JT 4000 (at_CA.getD 207 at_dC) = true := by decide +kernel
set_option maxRecDepth 1000000 in
theorem lk_t208 : at_chk (at_CM ++ at_CA.take 208) at_JT 4000 (at_CA.getD 208 at_dC) = true := by decide +kernel
set_option maxRecDepth 1000000 in
theorem lk_t209 : at_chk (at_CM ++ at_CA.take 209) at_JT 4000 (at_CA.getD 209 at_dC) = true := by decide +kernel
set_option maxRecDepth 1000000 in
theorem lk_t210 : at_chk (at_CM ++ at_CA.take 210) at_JT 4000 (at_CA.getD 210 at_dC) = true := by decide +kernel
set_option maxRecDepth 1000000 in
theorem lk_t211 : at_chk (at_CM ++ at_CA.take 211) at_JT 4000 (at_CA.getD 211 at_dC) = true := by decide +kernel
set_option maxRecDepth 1000000 in
theorem lk_t212 : at_chk (at_CM ++ at_CA.take 212) at_JT 4000 (at_CA.getD 212 at_dC) = true := by decide +kernel
set_option maxRecDepth 1000000 in
theorem lk_t213 : at_chk (at_CM ++ at_CA.take 213) at_JT 4000 (at_CA.getD 213 at_dC) = true := by decide +kernel
set_option maxRecDepth 1000000 in
theorem lk_t214 : at_chk (at_CM ++ at_CA.take 214) at_JT 4000 (at_CA.getD 214 at_dC) = true := by decide +kernel
set_option maxRecDepth 1000000 in
theorem lk_t215 : at_chk (at_CM ++ at_CA.take 215) at_JT 4000 (at_CA.getD 215 at_dC) = true := by decide +kernel
set_option maxRecDepth 1000000 in
theorem lk_t216 : at_chk (at_CM ++ at_CA.take 216) at_JT 4000 (at_CA.getD 216 at_dC) = true := by decide +kernel
set_option maxRecDepth 1000000 in
theorem lk_t217 : at_chk (at_CM ++ at_CA.take 217) at_JT 4000 (at_CA.getD 217 at_dC) = true := by decide +kernel
set_option maxRecDepth 1000000 in
theorem lk_t218 : at_chk (at_CM ++ at_CA.take 218) at_JT 4000 (at_CA.getD 218 at_dC) = true := by decide +kernel
set_option maxRecDepth 1000000 in
theorem lk_t219 : at_chk (at_CM ++ at_CA.take 219) at_JT 4000 (at_CA.getD 219 at_dC) = true := by decide +kernel
