/-! ===== the looker passes contracts 154 .. 175 ===== -/
set_option maxRecDepth 1000000 in
theorem at_p7 : at_all (at_CM ++ at_CA.take 154) at_JT 4000 ((at_CA.drop 154).take 22) = true := by decide +kernel
