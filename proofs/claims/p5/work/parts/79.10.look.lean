/-! ===== the looker passes contracts 220 .. 241 ===== -/
set_option maxRecDepth 1000000 in
theorem at_p10 : at_all (at_CM ++ at_CA.take 220) at_JT 4000 ((at_CA.drop 220).take 22) = true := by decide +kernel
