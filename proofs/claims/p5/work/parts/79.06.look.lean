/-! ===== the looker passes contracts 132 .. 153 ===== -/
set_option maxRecDepth 1000000 in
theorem at_p6 : at_all (at_CM ++ at_CA.take 132) at_JT 4000 ((at_CA.drop 132).take 22) = true := by decide +kernel
