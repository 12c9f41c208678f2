/-! ===== the looker passes contracts 176 .. 197, one by one ===== -/
def at_dC : at_C := (0, [], [], none, false, [])
set_option maxRecDepth 1000000 in
theorem lk_t176 : at_chk (at_CM ++ at_CA.take 176) at_JT 4000 (at_CA.getD 176 at_dC) = true := by decide +kernel
set_option maxRecDepth 1000000 in
theorem lk_t177 : at_chk (at_CM ++ at_CA.take 177) at_JT 4000 (at_CA.getD 177 at_dC) = true := by decide +kernel
set_option maxRecDepth 1000000 in
theorem lk_t178 : at_chk (at_CM ++ at_CA.take 178) at_JT 4000 (at_CA.getD 178 at_dC) = true := by decide +kernel
set_option maxRecDepth 1000000 in
theorem lk_t179 : at_chk (at_CM ++ at_CA.take 179) at_JT 4000 (at_CA.getD 179 at_dC) = true := by decide +kernel
set_option maxRecDepth 1000000 in
theorem lk_t180 : at_chk (at_CM ++ at_CA.take 180) at_JT 4000 (at_CA.getD 180 at_dC) = true := by decide +kernel
set_option maxRecDepth 1000000 in
theorem lk_t181 : at_chk (at_CM ++ at_CA.take 181) at_JT 4000 (at_CA.getD 181 at_dC) = true := by decide +kernel
set_option maxRecDepth 1000000 in
theorem lk_t182 : at_chk (at_CM ++ at_CA.take 182) at_JT 4000 (at_CA.getD 182 at_dC) = true := by decide +kernel
set_option maxRecDepth 1000000 in
theorem lk_t183 : at_chk (at_CM ++ at_CA.take 183) at_JT 4000 (at_CA.getD 183 at_dC) = true := by decide +kernel
set_option maxRecDepth 1000000 in
theorem lk_t184 : at_chk (at_CM ++ at_CA.take 184) at_JT 4000 (at_CA.getD 184 at_dC) = true := by decide +kernel
set_option maxRecDepth 1000000 in
theorem lk_t185 : at_chk (at_CM ++ at_CA.take 185) at_JT 4000 (at_CA.getD 185 at_dC) = true := by decide +kernel
set_option maxRecDepth 1000000 in
theorem lk_t186 : at_chk (at_CM ++ at_CA.take 186) at_JT 4000 (at_CA.getD 186 at_dC) = true := by decide +kernel
set_option maxRecDepth 1000000 in
theorem lk_t187 : at_chk (at_CM ++ at_CA.take 187) at_JT 4000 (at_CA.getD 187 at_dC) = true := by decide +kernel
set_option maxRecDepth 1000000 in
theorem lk_t188 : at_chk (at_CM ++ at_CA.take 188) at_JT 4000 (at_CA.getD 188 at_dC) = true := by decide +kernel
set_option maxRecDepth 1000000 in
theorem lk_t189 : at_chk (at_CM ++ at_CA.take 189) at_JT 4000 (at_CA.getD 189 at_dC) = true := by decide +kernel
set_option maxRecDepth 1000000 in
theorem lk_t190 : at_chk (at_CM ++ at_CA.take 190) at_JT 4000 (at_CA.getD 190 at_dC) = true := by decide +kernel
set_option maxRecDepth 1000000 in
theorem lk_t191 : at_chk (at_CM ++ at_CA.take 191) at_JT 4000 (at_CA.getD 191 at_dC) = true := by decide +kernel
set_option maxRecDepth 1000000 in
theorem lk_t192 : at_chk (at_CM ++ at_CA.take 192) at_JT 4000 (at_CA.getD 192 at_dC) = true := by decide +kernel
set_option maxRecDepth 1000000 in
theorem lk_t193 : at_chk (at_CM ++ at_CA.take 193) at_JT 4000 (at_CA.getD 193 at_dC) = true := by decide +kernel
set_option maxRecDepth 1000000 in
theorem lk_t194 : at_chk (at_CM ++ at_CA.take 194) at_JT 4000 (at_CA.getD 194 at_dC) = true := by decide +kernel
set_option maxRecDepth 1000000 in
theorem lk_t195 : at_chk (at_CM ++ at_CA.take 195) at_JT 4000 (at_CA.getD 195 at_dC) = true := by decide +kernel
set_option maxRecDepth 1000000 in
theorem lk_t196 : at_chk (at_CM ++ at_CA.take 196) at_JT 4000 (at_CA.getD 196 at_dC) = true := by decide +kernel
set_option maxRecDepth 1000000 in
theorem lk_t197 : at_chk (at_CM ++ at_CA.take 197) at_JT 4000 (at_CA.getD 197 at_dC) = true := by decide +kernel
