/-! ===== the looker passes contracts 66 .. 87 ===== -/
set_option maxRecDepth 1000000 in
theorem at_p3 : at_all (at_CM ++ at_CA.take 66) at_JT 4000 ((at_CA.drop 66).take 22) = true := by decide +kernel
