/-! ===== the looker passes contracts 242 .. 263 ===== -/
set_option maxRecDepth 1000000 in
theorem at_p11 : at_all (at_CM ++ at_CA.take 242) at_JT 4000 ((at_CA.drop 242).take 22) = true := by decide +kernel
