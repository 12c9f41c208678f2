/-! ===== the looker passes contracts 0 .. 21 ===== -/
set_option maxRecDepth 1000000 in
theorem at_p0 : at_all (at_CM ++ at_CA.take 0) at_JT 4000 ((at_CA.drop 0).take 22) = true := by decide +kernel
