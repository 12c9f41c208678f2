/-! ===== the looker passes contracts 198 .. 219 ===== -/
set_option maxRecDepth 1000000 in
theorem at_p9 : at_all (at_CM ++ at_CA.take 198) at_JT 4000 ((at_CA.drop 198).take 22) = true := by decide +kernel
