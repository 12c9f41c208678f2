/-! 84.s0.lean.txt -/
section
/-! ===== a state that is made, 0 .. 19 ===== -/
set_option maxRecDepth 1000000 in
theorem nw_s0 : nw_one 0 = true := by decide +kernel
set_option maxRecDepth 1000000 in
theorem nw_s1 : nw_one 1 = true := by decide +kernel
set_option maxRecDepth 1000000 in
theorem nw_s2 : nw_one 2 = true := by decide +kernel
set_option maxRecDepth 1000000 in
theorem nw_s3 : nw_one 3 = true := by decide +kernel
set_option maxRecDepth 1000000 in
theorem nw_s4 : nw_one 4 = true := by decide +kernel
set_option maxRecDepth 1000000 in
theorem nw_s5 : nw_one 5 = true := by decide +kernel
set_option maxRecDepth 1000000 in
theorem nw_s6 : nw_one 6 = true := by decide +kernel
set_option maxRecDepth 1000000 in
theorem nw_s7 : nw_one 7 = true := by decide +kernel
set_option maxRecDepth 1000000 in
theorem nw_s8 : nw_one 8 = true := by decide +kernel
set_option maxRecDepth 1000000 in
theorem nw_s9 : nw_one 9 = true := by decide +kernel
set_option maxRecDepth 1000000 in
theorem nw_s10 : nw_one 10 = true := by decide +kernel
set_option maxRecDepth 1000000 in
theorem nw_s11 : nw_one 11 = true := by decide +kernel
set_option maxRecDepth 1000000 in
theorem nw_s12 : nw_one 12 = true := by decide +kernel
set_option maxRecDepth 1000000 in
theorem nw_s13 : nw_one 13 = true := by decide +kernel
set_option maxRecDepth 1000000 in
theorem nw_s14 : nw_one 14 = true := by decide +kernel
set_option maxRecDepth 1000000 in
theorem nw_s15 : nw_one 15 = true := by decide +kernel
set_option maxRecDepth 1000000 in
theorem nw_s16 : nw_one 16 = true := by decide +kernel
set_option maxRecDepth 1000000 in
theorem nw_s17 : nw_one 17 = true := by decide +kernel
set_option maxRecDepth 1000000 in
theorem nw_s18 : nw_one 18 = true := by decide +kernel
set_option maxRecDepth 1000000 in
theorem nw_s19 : nw_one 19 = true := by decide +kernel

end

/-! 84.s1.lean.txt -/
section
/-! ===== a state that is made, 20 .. 39 ===== -/
set_option maxRecDepth 1000000 in
theorem nw_s20 : nw_one 20 = true := by decide +kernel
set_option maxRecDepth 1000000 in
theorem nw_s21 : nw_one 21 = true := by decide +kernel
set_option maxRecDepth 1000000 in
theorem nw_s22 : nw_one 22 = true := by decide +kernel
set_option maxRecDepth 1000000 in
theorem nw_s23 : nw_one 23 = true := by decide +kernel
set_option maxRecDepth 1000000 in
theorem nw_s24 : nw_one 24 = true := by decide +kernel
set_option maxRecDepth 1000000 in
theorem nw_s25 : nw_one 25 = true := by decide +kernel
set_option maxRecDepth 1000000 in
theorem nw_s26 : nw_one 26 = true := by decide +kernel
set_option maxRecDepth 1000000 in
theorem nw_s27 : nw_one 27 = true := by decide +kernel
set_option maxRecDepth 1000000 in
theorem nw_s28 : nw_one 28 = true := by decide +kernel
set_option maxRecDepth 1000000 in
theorem nw_s29 : nw_one 29 = true := by decide +kernel
set_option maxRecDepth 1000000 in
theorem nw_s30 : nw_one 30 = true := by decide +kernel
set_option maxRecDepth 1000000 in
theorem nw_s31 : nw_one 31 = true := by decide +kernel
set_option maxRecDepth 1000000 in
theorem nw_s32 : nw_one 32 = true := by decide +kernel
set_option maxRecDepth 1000000 in
theorem nw_s33 : nw_one 33 = true := by decide +kernel
set_option maxRecDepth 1000000 in
theorem nw_s34 : nw_one 34 = true := by decide +kernel
set_option maxRecDepth 1000000 in
theorem nw_s35 : nw_one 35 = true := by decide +kernel
set_option maxRecDepth 1000000 in
theorem nw_s36 : nw_one 36 = true := by decide +kernel
set_option maxRecDepth 1000000 in
theorem nw_s37 : nw_one 37 = true := by decide +kernel
set_option maxRecDepth 1000000 in
theorem nw_s38 : nw_one 38 = true := by decide +kernel
set_option maxRecDepth 1000000 in
theorem nw_s39 : nw_one 39 = true := by decide +kernel
theorem nw_state : ∀ h : Nat, h < 40 → nw_one h = true
  | 0, _ => nw_s0
  | 1, _ => nw_s1
  | 2, _ => nw_s2
  | 3, _ => nw_s3
  | 4, _ => nw_s4
  | 5, _ => nw_s5
  | 6, _ => nw_s6
  | 7, _ => nw_s7
  | 8, _ => nw_s8
  | 9, _ => nw_s9
  | 10, _ => nw_s10
  | 11, _ => nw_s11
  | 12, _ => nw_s12
  | 13, _ => nw_s13
  | 14, _ => nw_s14
  | 15, _ => nw_s15
  | 16, _ => nw_s16
  | 17, _ => nw_s17
  | 18, _ => nw_s18
  | 19, _ => nw_s19
  | 20, _ => nw_s20
  | 21, _ => nw_s21
  | 22, _ => nw_s22
  | 23, _ => nw_s23
  | 24, _ => nw_s24
  | 25, _ => nw_s25
  | 26, _ => nw_s26
  | 27, _ => nw_s27
  | 28, _ => nw_s28
  | 29, _ => nw_s29
  | 30, _ => nw_s30
  | 31, _ => nw_s31
  | 32, _ => nw_s32
  | 33, _ => nw_s33
  | 34, _ => nw_s34
  | 35, _ => nw_s35
  | 36, _ => nw_s36
  | 37, _ => nw_s37
  | 38, _ => nw_s38
  | 39, _ => nw_s39
  | n + 40, h => absurd h (by omega)

end
