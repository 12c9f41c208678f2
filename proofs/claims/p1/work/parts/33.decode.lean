def pw_okd (mi : Nat) : Bool := (pw_codes mi).all (pw_okq (am_g2 pw_cc_l ByteArray.empty mi))
def pw_fdd (mi : Nat) : Bool := fd_go (am_g2 pw_cc_l ByteArray.empty mi) (pw_codes mi) 0 (am_g2 pw_cc_l ByteArray.empty mi).data.toList
theorem pw_fdo {mi : Nat} (h : pw_fdd mi = true) : pw_okd mi = true := fd_all h
set_option maxRecDepth 1000000 in
theorem pw_okd_0 : (List.range' 0 1).all pw_fdd = true := by decide +kernel
set_option maxRecDepth 1000000 in
theorem pw_okd_1 : (List.range' 1 10).all pw_fdd = true := by decide +kernel
set_option maxRecDepth 1000000 in
theorem pw_okd_11 : (List.range' 11 10).all pw_fdd = true := by decide +kernel
set_option maxRecDepth 1000000 in
theorem pw_okd_21 : (List.range' 21 10).all pw_fdd = true := by decide +kernel
set_option maxRecDepth 1000000 in
theorem pw_okd_31 : (List.range' 31 10).all pw_fdd = true := by decide +kernel
set_option maxRecDepth 1000000 in
theorem pw_okd_41 : (List.range' 41 10).all pw_fdd = true := by decide +kernel
set_option maxRecDepth 1000000 in
theorem pw_okd_51 : (List.range' 51 10).all pw_fdd = true := by decide +kernel
set_option maxRecDepth 1000000 in
theorem pw_okd_61 : (List.range' 61 10).all pw_fdd = true := by decide +kernel
set_option maxRecDepth 1000000 in
theorem pw_okd_71 : (List.range' 71 10).all pw_fdd = true := by decide +kernel
set_option maxRecDepth 1000000 in
theorem pw_okd_81 : (List.range' 81 10).all pw_fdd = true := by decide +kernel
set_option maxRecDepth 1000000 in
theorem pw_okd_91 : (List.range' 91 10).all pw_fdd = true := by decide +kernel
set_option maxRecDepth 1000000 in
theorem pw_okd_101 : (List.range' 101 10).all pw_fdd = true := by decide +kernel
set_option maxRecDepth 1000000 in
theorem pw_okd_111 : (List.range' 111 10).all pw_fdd = true := by decide +kernel
set_option maxRecDepth 1000000 in
theorem pw_okd_121 : (List.range' 121 10).all pw_fdd = true := by decide +kernel
set_option maxRecDepth 1000000 in
theorem pw_okd_131 : (List.range' 131 10).all pw_fdd = true := by decide +kernel
set_option maxRecDepth 1000000 in
theorem pw_okd_141 : (List.range' 141 10).all pw_fdd = true := by decide +kernel
set_option maxRecDepth 1000000 in
theorem pw_okd_151 : (List.range' 151 10).all pw_fdd = true := by decide +kernel
set_option maxRecDepth 1000000 in
theorem pw_okd_161 : (List.range' 161 10).all pw_fdd = true := by decide +kernel
set_option maxRecDepth 1000000 in
theorem pw_okd_171 : (List.range' 171 10).all pw_fdd = true := by decide +kernel
set_option maxRecDepth 1000000 in
theorem pw_okd_181 : (List.range' 181 10).all pw_fdd = true := by decide +kernel
set_option maxRecDepth 1000000 in
theorem pw_okd_191 : (List.range' 191 10).all pw_fdd = true := by decide +kernel
set_option maxRecDepth 1000000 in
theorem pw_okd_201 : (List.range' 201 10).all pw_fdd = true := by decide +kernel
set_option maxRecDepth 1000000 in
theorem pw_okd_211 : (List.range' 211 10).all pw_fdd = true := by decide +kernel
set_option maxRecDepth 1000000 in
theorem pw_okd_221 : (List.range' 221 10).all pw_fdd = true := by decide +kernel
set_option maxRecDepth 1000000 in
theorem pw_okd_231 : (List.range' 231 10).all pw_fdd = true := by decide +kernel
set_option maxRecDepth 1000000 in
theorem pw_okd_241 : (List.range' 241 10).all pw_fdd = true := by decide +kernel
set_option maxRecDepth 1000000 in
theorem pw_okd_251 : (List.range' 251 10).all pw_fdd = true := by decide +kernel
set_option maxRecDepth 1000000 in
theorem pw_okd_261 : (List.range' 261 10).all pw_fdd = true := by decide +kernel
set_option maxRecDepth 1000000 in
theorem pw_okd_271 : (List.range' 271 10).all pw_fdd = true := by decide +kernel
set_option maxRecDepth 1000000 in
theorem pw_okd_281 : (List.range' 281 10).all pw_fdd = true := by decide +kernel
set_option maxRecDepth 1000000 in
theorem pw_okd_291 : (List.range' 291 10).all pw_fdd = true := by decide +kernel
set_option maxRecDepth 1000000 in
theorem pw_okd_301 : (List.range' 301 10).all pw_fdd = true := by decide +kernel
set_option maxRecDepth 1000000 in
theorem pw_okd_311 : (List.range' 311 10).all pw_fdd = true := by decide +kernel
set_option maxRecDepth 1000000 in
theorem pw_okd_321 : (List.range' 321 10).all pw_fdd = true := by decide +kernel
set_option maxRecDepth 1000000 in
theorem pw_okd_331 : (List.range' 331 8).all pw_fdd = true := by decide +kernel
theorem am_g2_out {α : Type} (l : List (List α)) (d : α) {k : Nat} (h : 18 * l.length ≤ k) : am_g2 l d k = d := by
  unfold am_g2
  have h1 : l.getD (k / 18) [] = [] := by
    rw [List.getD_eq_getElem?_getD, List.getElem?_eq_none (by omega)]
    rfl
  rw [h1]
  rfl
theorem pw_rng {f : Nat → Bool} {a n k : Nat} (h : (List.range' a n).all f = true) (h1 : a ≤ k) (h2 : k < a + n) : f k = true := List.all_eq_true.mp h k (List.mem_range'_1.mpr ⟨h1, h2⟩)
theorem pw_okd_all {mi : Nat} (h : mi < 339) : pw_okd mi = true := by
  by_cases h0 : mi < 1
  · exact pw_fdo (pw_rng pw_okd_0 (by omega) h0)
  by_cases h1 : mi < 11
  · exact pw_fdo (pw_rng pw_okd_1 (by omega) h1)
  by_cases h11 : mi < 21
  · exact pw_fdo (pw_rng pw_okd_11 (by omega) h11)
  by_cases h21 : mi < 31
  · exact pw_fdo (pw_rng pw_okd_21 (by omega) h21)
  by_cases h31 : mi < 41
  · exact pw_fdo (pw_rng pw_okd_31 (by omega) h31)
  by_cases h41 : mi < 51
  · exact pw_fdo (pw_rng pw_okd_41 (by omega) h41)
  by_cases h51 : mi < 61
  · exact pw_fdo (pw_rng pw_okd_51 (by omega) h51)
  by_cases h61 : mi < 71
  · exact pw_fdo (pw_rng pw_okd_61 (by omega) h61)
  by_cases h71 : mi < 81
  · exact pw_fdo (pw_rng pw_okd_71 (by omega) h71)
  by_cases h81 : mi < 91
  · exact pw_fdo (pw_rng pw_okd_81 (by omega) h81)
  by_cases h91 : mi < 101
  · exact pw_fdo (pw_rng pw_okd_91 (by omega) h91)
  by_cases h101 : mi < 111
  · exact pw_fdo (pw_rng pw_okd_101 (by omega) h101)
  by_cases h111 : mi < 121
  · exact pw_fdo (pw_rng pw_okd_111 (by omega) h111)
  by_cases h121 : mi < 131
  · exact pw_fdo (pw_rng pw_okd_121 (by omega) h121)
  by_cases h131 : mi < 141
  · exact pw_fdo (pw_rng pw_okd_131 (by omega) h131)
  by_cases h141 : mi < 151
  · exact pw_fdo (pw_rng pw_okd_141 (by omega) h141)
  by_cases h151 : mi < 161
  · exact pw_fdo (pw_rng pw_okd_151 (by omega) h151)
  by_cases h161 : mi < 171
  · exact pw_fdo (pw_rng pw_okd_161 (by omega) h161)
  by_cases h171 : mi < 181
  · exact pw_fdo (pw_rng pw_okd_171 (by omega) h171)
  by_cases h181 : mi < 191
  · exact pw_fdo (pw_rng pw_okd_181 (by omega) h181)
  by_cases h191 : mi < 201
  · exact pw_fdo (pw_rng pw_okd_191 (by omega) h191)
  by_cases h201 : mi < 211
  · exact pw_fdo (pw_rng pw_okd_201 (by omega) h201)
  by_cases h211 : mi < 221
  · exact pw_fdo (pw_rng pw_okd_211 (by omega) h211)
  by_cases h221 : mi < 231
  · exact pw_fdo (pw_rng pw_okd_221 (by omega) h221)
  by_cases h231 : mi < 241
  · exact pw_fdo (pw_rng pw_okd_231 (by omega) h231)
  by_cases h241 : mi < 251
  · exact pw_fdo (pw_rng pw_okd_241 (by omega) h241)
  by_cases h251 : mi < 261
  · exact pw_fdo (pw_rng pw_okd_251 (by omega) h251)
  by_cases h261 : mi < 271
  · exact pw_fdo (pw_rng pw_okd_261 (by omega) h261)
  by_cases h271 : mi < 281
  · exact pw_fdo (pw_rng pw_okd_271 (by omega) h271)
  by_cases h281 : mi < 291
  · exact pw_fdo (pw_rng pw_okd_281 (by omega) h281)
  by_cases h291 : mi < 301
  · exact pw_fdo (pw_rng pw_okd_291 (by omega) h291)
  by_cases h301 : mi < 311
  · exact pw_fdo (pw_rng pw_okd_301 (by omega) h301)
  by_cases h311 : mi < 321
  · exact pw_fdo (pw_rng pw_okd_311 (by omega) h311)
  by_cases h321 : mi < 331
  · exact pw_fdo (pw_rng pw_okd_321 (by omega) h321)
  by_cases h331 : mi < 339
  · exact pw_fdo (pw_rng pw_okd_331 (by omega) h331)
  omega
theorem pw_code_lt {mi pc : Nat} {ins : Instr} (h : pw_code mi pc = some ins) : mi < 339 := by
  by_cases hm : mi < 339
  · exact hm
  · by_cases ht : 342 ≤ mi
    · unfold pw_code at h
      rw [am_g2_out pw_code_l [] (show 18 * pw_code_l.length ≤ mi from ht)] at h
      cases h
    · have hc : mi = 339 ∨ mi = 340 ∨ mi = 341 := by omega
      rcases hc with rfl | rfl | rfl <;> cases h
theorem pw_G1 (L : Nat) (xs : Nat → Int32) : am_G1 (pw_P L xs) pw_B := by
  intro mi pc ins h
  replace h : pw_code mi pc = some ins := h
  have hl := pw_code_lt h
  have hk := pw_okd_all hl
  unfold pw_okd at hk
  have hq := List.all_eq_true.mp hk _ (pw_code_mem h)
  unfold pw_okq at hq
  dsimp only at hq
  split at hq
  · rename_i i n hd
    simp only [Bool.and_eq_true, Bool.or_eq_true, decide_eq_true_eq] at hq
    obtain ⟨rfl, hn⟩ := hq
    exact ⟨n, hd, hn.imp Nat.eq_of_beq_eq_true Nat.eq_of_beq_eq_true⟩
  · cases hq
