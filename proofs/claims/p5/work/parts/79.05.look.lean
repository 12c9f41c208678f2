/-! ===== the looker passes contracts 110 .. 131 ===== -/
set_option maxRecDepth 1000000 in
theorem at_p5 : at_all (at_CM ++ at_CA.take 110) at_JT 4000 ((at_CA.drop 110).take 22) = true := by decide +kernel
