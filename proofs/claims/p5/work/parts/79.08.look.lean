/-! ===== the looker passes contracts 176 .. 197 ===== -/
set_option maxRecDepth 1000000 in
theorem at_p8 : at_all (at_CM ++ at_CA.take 176) at_JT 4000 ((at_CA.drop 176).take 22) = true := by decide +kernel
