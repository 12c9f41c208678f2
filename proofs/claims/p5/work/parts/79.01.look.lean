/-! ===== the looker passes contracts 22 .. 43 ===== -/
set_option maxRecDepth 1000000 in
theorem at_p1 : at_all (at_CM ++ at_CA.take 22) at_JT 4000 ((at_CA.drop 22).take 22) = true := by decide +kernel
