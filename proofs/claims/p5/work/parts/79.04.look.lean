/-! ===== the looker passes contracts 88 .. 109 ===== -/
set_option maxRecDepth 1000000 in
theorem at_p4 : at_all (at_CM ++ at_CA.take 88) at_JT 4000 ((at_CA.drop 88).take 22) = true := by decide +kernel
