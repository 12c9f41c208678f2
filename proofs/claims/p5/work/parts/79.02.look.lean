/-! ===== the looker passes contracts 44 .. 65 ===== -/
set_option maxRecDepth 1000000 in
theorem at_p2 : at_all (at_CM ++ at_CA.take 44) at_JT 4000 ((at_CA.drop 44).take 22) = true := by decide +kernel
