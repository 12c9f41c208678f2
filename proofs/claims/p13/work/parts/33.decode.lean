def pw_okq (b : ByteArray) (q : Nat × Instr) : Bool := match decode b q.1 with
  | .ok (i, n) => decide (i = q.2) && (Nat.beq (am_ln i) 0 || Nat.beq n (am_ln i))
  | .error _ => false
def pw_okd (mi : Nat) : Bool := (am_g2 pw_code_l [] mi).all (pw_okq (am_g2 pw_cc_l ByteArray.empty mi))
set_option maxRecDepth 100000 in
theorem pw_okl_0 : ((pw_t0.drop 0).take 40).all (pw_okq code) = true := by decide +kernel
set_option maxRecDepth 100000 in
theorem pw_okl_40 : ((pw_t0.drop 40).take 40).all (pw_okq code) = true := by decide +kernel
set_option maxRecDepth 100000 in
theorem pw_okl_80 : ((pw_t0.drop 80).take 40).all (pw_okq code) = true := by decide +kernel
set_option maxRecDepth 100000 in
theorem pw_okl_120 : ((pw_t0.drop 120).take 40).all (pw_okq code) = true := by decide +kernel
set_option maxRecDepth 100000 in
theorem pw_okl_160 : ((pw_t0.drop 160).take 40).all (pw_okq code) = true := by decide +kernel
set_option maxRecDepth 100000 in
theorem pw_okl_200 : ((pw_t0.drop 200).take 40).all (pw_okq code) = true := by decide +kernel
set_option maxRecDepth 100000 in
theorem pw_okl_240 : ((pw_t0.drop 240).take 40).all (pw_okq code) = true := by decide +kernel
set_option maxRecDepth 100000 in
theorem pw_okl_280 : ((pw_t0.drop 280).take 40).all (pw_okq code) = true := by decide +kernel
set_option maxRecDepth 100000 in
theorem pw_okl_320 : ((pw_t0.drop 320).take 40).all (pw_okq code) = true := by decide +kernel
set_option maxRecDepth 100000 in
theorem pw_okl_360 : ((pw_t0.drop 360).take 40).all (pw_okq code) = true := by decide +kernel
set_option maxRecDepth 100000 in
theorem pw_okl_400 : ((pw_t0.drop 400).take 40).all (pw_okq code) = true := by decide +kernel
set_option maxRecDepth 100000 in
theorem pw_okl_440 : ((pw_t0.drop 440).take 40).all (pw_okq code) = true := by decide +kernel
set_option maxRecDepth 100000 in
theorem pw_okl_480 : ((pw_t0.drop 480).take 40).all (pw_okq code) = true := by decide +kernel
set_option maxRecDepth 100000 in
theorem pw_okl_520 : ((pw_t0.drop 520).take 40).all (pw_okq code) = true := by decide +kernel
set_option maxRecDepth 100000 in
theorem pw_okl_560 : ((pw_t0.drop 560).take 40).all (pw_okq code) = true := by decide +kernel
set_option maxRecDepth 100000 in
theorem pw_okl_600 : ((pw_t0.drop 600).take 40).all (pw_okq code) = true := by decide +kernel
set_option maxRecDepth 100000 in
theorem pw_okl_640 : ((pw_t0.drop 640).take 40).all (pw_okq code) = true := by decide +kernel
set_option maxRecDepth 100000 in
theorem pw_okl_680 : ((pw_t0.drop 680).take 40).all (pw_okq code) = true := by decide +kernel
set_option maxRecDepth 100000 in
theorem pw_okl_720 : ((pw_t0.drop 720).take 40).all (pw_okq code) = true := by decide +kernel
set_option maxRecDepth 100000 in
theorem pw_okl_760 : ((pw_t0.drop 760).take 40).all (pw_okq code) = true := by decide +kernel
set_option maxRecDepth 100000 in
theorem pw_okl_800 : ((pw_t0.drop 800).take 40).all (pw_okq code) = true := by decide +kernel
set_option maxRecDepth 100000 in
theorem pw_okl_840 : ((pw_t0.drop 840).take 40).all (pw_okq code) = true := by decide +kernel
set_option maxRecDepth 100000 in
theorem pw_okl_880 : ((pw_t0.drop 880).take 40).all (pw_okq code) = true := by decide +kernel
set_option maxRecDepth 100000 in
theorem pw_okl_920 : ((pw_t0.drop 920).take 40).all (pw_okq code) = true := by decide +kernel
set_option maxRecDepth 100000 in
theorem pw_okl_960 : ((pw_t0.drop 960).take 40).all (pw_okq code) = true := by decide +kernel
set_option maxRecDepth 100000 in
theorem pw_okl_1000 : ((pw_t0.drop 1000).take 40).all (pw_okq code) = true := by decide +kernel
set_option maxRecDepth 100000 in
theorem pw_okl_1040 : ((pw_t0.drop 1040).take 40).all (pw_okq code) = true := by decide +kernel
set_option maxRecDepth 100000 in
theorem pw_okl_1080 : ((pw_t0.drop 1080).take 40).all (pw_okq code) = true := by decide +kernel
set_option maxRecDepth 100000 in
theorem pw_okl_1120 : ((pw_t0.drop 1120).take 40).all (pw_okq code) = true := by decide +kernel
set_option maxRecDepth 100000 in
theorem pw_okl_1160 : ((pw_t0.drop 1160).take 40).all (pw_okq code) = true := by decide +kernel
set_option maxRecDepth 100000 in
theorem pw_okl_1200 : ((pw_t0.drop 1200).take 40).all (pw_okq code) = true := by decide +kernel
set_option maxRecDepth 100000 in
theorem pw_okl_1240 : ((pw_t0.drop 1240).take 40).all (pw_okq code) = true := by decide +kernel
set_option maxRecDepth 100000 in
theorem pw_okl_1280 : ((pw_t0.drop 1280).take 40).all (pw_okq code) = true := by decide +kernel
theorem pw_okl_s {α : Type} {f : α → Bool} {l : List α} {n : Nat} (h1 : (l.take n).all f = true) (h2 : (l.drop n).all f = true) : l.all f = true := by
  rw [← List.take_append_drop n l, List.all_append, h1, h2]
  rfl
set_option maxRecDepth 100000 in
theorem pw_okl : pw_okd 0 = true := by
  show pw_t0.all (pw_okq code) = true
  have h1280 : (pw_t0.drop 1280).all (pw_okq code) = true := pw_okl_s pw_okl_1280 (by rw [List.drop_drop]; rfl)
  have h1240 : (pw_t0.drop 1240).all (pw_okq code) = true := pw_okl_s pw_okl_1240 (by rw [List.drop_drop]; exact h1280)
  have h1200 : (pw_t0.drop 1200).all (pw_okq code) = true := pw_okl_s pw_okl_1200 (by rw [List.drop_drop]; exact h1240)
  have h1160 : (pw_t0.drop 1160).all (pw_okq code) = true := pw_okl_s pw_okl_1160 (by rw [List.drop_drop]; exact h1200)
  have h1120 : (pw_t0.drop 1120).all (pw_okq code) = true := pw_okl_s pw_okl_1120 (by rw [List.drop_drop]; exact h1160)
  have h1080 : (pw_t0.drop 1080).all (pw_okq code) = true := pw_okl_s pw_okl_1080 (by rw [List.drop_drop]; exact h1120)
  have h1040 : (pw_t0.drop 1040).all (pw_okq code) = true := pw_okl_s pw_okl_1040 (by rw [List.drop_drop]; exact h1080)
  have h1000 : (pw_t0.drop 1000).all (pw_okq code) = true := pw_okl_s pw_okl_1000 (by rw [List.drop_drop]; exact h1040)
  have h960 : (pw_t0.drop 960).all (pw_okq code) = true := pw_okl_s pw_okl_960 (by rw [List.drop_drop]; exact h1000)
  have h920 : (pw_t0.drop 920).all (pw_okq code) = true := pw_okl_s pw_okl_920 (by rw [List.drop_drop]; exact h960)
  have h880 : (pw_t0.drop 880).all (pw_okq code) = true := pw_okl_s pw_okl_880 (by rw [List.drop_drop]; exact h920)
  have h840 : (pw_t0.drop 840).all (pw_okq code) = true := pw_okl_s pw_okl_840 (by rw [List.drop_drop]; exact h880)
  have h800 : (pw_t0.drop 800).all (pw_okq code) = true := pw_okl_s pw_okl_800 (by rw [List.drop_drop]; exact h840)
  have h760 : (pw_t0.drop 760).all (pw_okq code) = true := pw_okl_s pw_okl_760 (by rw [List.drop_drop]; exact h800)
  have h720 : (pw_t0.drop 720).all (pw_okq code) = true := pw_okl_s pw_okl_720 (by rw [List.drop_drop]; exact h760)
  have h680 : (pw_t0.drop 680).all (pw_okq code) = true := pw_okl_s pw_okl_680 (by rw [List.drop_drop]; exact h720)
  have h640 : (pw_t0.drop 640).all (pw_okq code) = true := pw_okl_s pw_okl_640 (by rw [List.drop_drop]; exact h680)
  have h600 : (pw_t0.drop 600).all (pw_okq code) = true := pw_okl_s pw_okl_600 (by rw [List.drop_drop]; exact h640)
  have h560 : (pw_t0.drop 560).all (pw_okq code) = true := pw_okl_s pw_okl_560 (by rw [List.drop_drop]; exact h600)
  have h520 : (pw_t0.drop 520).all (pw_okq code) = true := pw_okl_s pw_okl_520 (by rw [List.drop_drop]; exact h560)
  have h480 : (pw_t0.drop 480).all (pw_okq code) = true := pw_okl_s pw_okl_480 (by rw [List.drop_drop]; exact h520)
  have h440 : (pw_t0.drop 440).all (pw_okq code) = true := pw_okl_s pw_okl_440 (by rw [List.drop_drop]; exact h480)
  have h400 : (pw_t0.drop 400).all (pw_okq code) = true := pw_okl_s pw_okl_400 (by rw [List.drop_drop]; exact h440)
  have h360 : (pw_t0.drop 360).all (pw_okq code) = true := pw_okl_s pw_okl_360 (by rw [List.drop_drop]; exact h400)
  have h320 : (pw_t0.drop 320).all (pw_okq code) = true := pw_okl_s pw_okl_320 (by rw [List.drop_drop]; exact h360)
  have h280 : (pw_t0.drop 280).all (pw_okq code) = true := pw_okl_s pw_okl_280 (by rw [List.drop_drop]; exact h320)
  have h240 : (pw_t0.drop 240).all (pw_okq code) = true := pw_okl_s pw_okl_240 (by rw [List.drop_drop]; exact h280)
  have h200 : (pw_t0.drop 200).all (pw_okq code) = true := pw_okl_s pw_okl_200 (by rw [List.drop_drop]; exact h240)
  have h160 : (pw_t0.drop 160).all (pw_okq code) = true := pw_okl_s pw_okl_160 (by rw [List.drop_drop]; exact h200)
  have h120 : (pw_t0.drop 120).all (pw_okq code) = true := pw_okl_s pw_okl_120 (by rw [List.drop_drop]; exact h160)
  have h80 : (pw_t0.drop 80).all (pw_okq code) = true := pw_okl_s pw_okl_80 (by rw [List.drop_drop]; exact h120)
  have h40 : (pw_t0.drop 40).all (pw_okq code) = true := pw_okl_s pw_okl_40 (by rw [List.drop_drop]; exact h80)
  have h0 : (pw_t0.drop 0).all (pw_okq code) = true := pw_okl_s pw_okl_0 (by rw [List.drop_drop]; exact h40)
  exact h0
theorem pw_okd_0 : (List.range' 0 1).all pw_okd = true := by
  show (pw_okd 0 && true) = true
  rw [pw_okl]
  rfl
set_option maxRecDepth 100000 in
theorem pw_okd_1 : (List.range' 1 10).all pw_okd = true := by decide +kernel
set_option maxRecDepth 100000 in
theorem pw_okd_11 : (List.range' 11 10).all pw_okd = true := by decide +kernel
set_option maxRecDepth 100000 in
theorem pw_okd_21 : (List.range' 21 10).all pw_okd = true := by decide +kernel
set_option maxRecDepth 100000 in
theorem pw_okd_31 : (List.range' 31 10).all pw_okd = true := by decide +kernel
set_option maxRecDepth 100000 in
theorem pw_okd_41 : (List.range' 41 10).all pw_okd = true := by decide +kernel
set_option maxRecDepth 100000 in
theorem pw_okd_51 : (List.range' 51 10).all pw_okd = true := by decide +kernel
set_option maxRecDepth 100000 in
theorem pw_okd_61 : (List.range' 61 10).all pw_okd = true := by decide +kernel
set_option maxRecDepth 100000 in
theorem pw_okd_71 : (List.range' 71 10).all pw_okd = true := by decide +kernel
set_option maxRecDepth 100000 in
theorem pw_okd_81 : (List.range' 81 10).all pw_okd = true := by decide +kernel
set_option maxRecDepth 100000 in
theorem pw_okd_91 : (List.range' 91 10).all pw_okd = true := by decide +kernel
set_option maxRecDepth 100000 in
theorem pw_okd_101 : (List.range' 101 10).all pw_okd = true := by decide +kernel
set_option maxRecDepth 100000 in
theorem pw_okd_111 : (List.range' 111 10).all pw_okd = true := by decide +kernel
set_option maxRecDepth 100000 in
theorem pw_okd_121 : (List.range' 121 10).all pw_okd = true := by decide +kernel
set_option maxRecDepth 100000 in
theorem pw_okd_131 : (List.range' 131 10).all pw_okd = true := by decide +kernel
set_option maxRecDepth 100000 in
theorem pw_okd_141 : (List.range' 141 10).all pw_okd = true := by decide +kernel
set_option maxRecDepth 100000 in
theorem pw_okd_151 : (List.range' 151 10).all pw_okd = true := by decide +kernel
set_option maxRecDepth 100000 in
theorem pw_okd_161 : (List.range' 161 10).all pw_okd = true := by decide +kernel
set_option maxRecDepth 100000 in
theorem pw_okd_171 : (List.range' 171 10).all pw_okd = true := by decide +kernel
set_option maxRecDepth 100000 in
theorem pw_okd_181 : (List.range' 181 10).all pw_okd = true := by decide +kernel
set_option maxRecDepth 100000 in
theorem pw_okd_191 : (List.range' 191 10).all pw_okd = true := by decide +kernel
set_option maxRecDepth 100000 in
theorem pw_okd_201 : (List.range' 201 10).all pw_okd = true := by decide +kernel
set_option maxRecDepth 100000 in
theorem pw_okd_211 : (List.range' 211 10).all pw_okd = true := by decide +kernel
set_option maxRecDepth 100000 in
theorem pw_okd_221 : (List.range' 221 10).all pw_okd = true := by decide +kernel
set_option maxRecDepth 100000 in
theorem pw_okd_231 : (List.range' 231 10).all pw_okd = true := by decide +kernel
set_option maxRecDepth 100000 in
theorem pw_okd_241 : (List.range' 241 10).all pw_okd = true := by decide +kernel
set_option maxRecDepth 100000 in
theorem pw_okd_251 : (List.range' 251 10).all pw_okd = true := by decide +kernel
set_option maxRecDepth 100000 in
theorem pw_okd_261 : (List.range' 261 10).all pw_okd = true := by decide +kernel
set_option maxRecDepth 100000 in
theorem pw_okd_271 : (List.range' 271 10).all pw_okd = true := by decide +kernel
set_option maxRecDepth 100000 in
theorem pw_okd_281 : (List.range' 281 10).all pw_okd = true := by decide +kernel
set_option maxRecDepth 100000 in
theorem pw_okd_291 : (List.range' 291 10).all pw_okd = true := by decide +kernel
set_option maxRecDepth 100000 in
theorem pw_okd_301 : (List.range' 301 10).all pw_okd = true := by decide +kernel
set_option maxRecDepth 100000 in
theorem pw_okd_311 : (List.range' 311 10).all pw_okd = true := by decide +kernel
set_option maxRecDepth 100000 in
theorem pw_okd_321 : (List.range' 321 10).all pw_okd = true := by decide +kernel
set_option maxRecDepth 100000 in
theorem pw_okd_331 : (List.range' 331 8).all pw_okd = true := by decide +kernel
theorem am_g2_out {α : Type} (l : List (List α)) (d : α) {k : Nat} (h : 18 * l.length ≤ k) : am_g2 l d k = d := by
  unfold am_g2
  have h1 : l.getD (k / 18) [] = [] := by
    rw [List.getD_eq_getElem?_getD, List.getElem?_eq_none (by omega)]
    rfl
  rw [h1]
  rfl
theorem pw_rng {f : Nat → Bool} {a n k : Nat} (h : (List.range' a n).all f = true) (h1 : a ≤ k) (h2 : k < a + n) : f k = true := List.all_eq_true.mp h k (List.mem_range'_1.mpr ⟨h1, h2⟩)
theorem pw_okd_all {mi : Nat} (h : mi < 339) : pw_okd mi = true := by
  by_cases h0 : mi < 1
  · exact pw_rng pw_okd_0 (by omega) h0
  by_cases h1 : mi < 11
  · exact pw_rng pw_okd_1 (by omega) h1
  by_cases h11 : mi < 21
  · exact pw_rng pw_okd_11 (by omega) h11
  by_cases h21 : mi < 31
  · exact pw_rng pw_okd_21 (by omega) h21
  by_cases h31 : mi < 41
  · exact pw_rng pw_okd_31 (by omega) h31
  by_cases h41 : mi < 51
  · exact pw_rng pw_okd_41 (by omega) h41
  by_cases h51 : mi < 61
  · exact pw_rng pw_okd_51 (by omega) h51
  by_cases h61 : mi < 71
  · exact pw_rng pw_okd_61 (by omega) h61
  by_cases h71 : mi < 81
  · exact pw_rng pw_okd_71 (by omega) h71
  by_cases h81 : mi < 91
  · exact pw_rng pw_okd_81 (by omega) h81
  by_cases h91 : mi < 101
  · exact pw_rng pw_okd_91 (by omega) h91
  by_cases h101 : mi < 111
  · exact pw_rng pw_okd_101 (by omega) h101
  by_cases h111 : mi < 121
  · exact pw_rng pw_okd_111 (by omega) h111
  by_cases h121 : mi < 131
  · exact pw_rng pw_okd_121 (by omega) h121
  by_cases h131 : mi < 141
  · exact pw_rng pw_okd_131 (by omega) h131
  by_cases h141 : mi < 151
  · exact pw_rng pw_okd_141 (by omega) h141
  by_cases h151 : mi < 161
  · exact pw_rng pw_okd_151 (by omega) h151
  by_cases h161 : mi < 171
  · exact pw_rng pw_okd_161 (by omega) h161
  by_cases h171 : mi < 181
  · exact pw_rng pw_okd_171 (by omega) h171
  by_cases h181 : mi < 191
  · exact pw_rng pw_okd_181 (by omega) h181
  by_cases h191 : mi < 201
  · exact pw_rng pw_okd_191 (by omega) h191
  by_cases h201 : mi < 211
  · exact pw_rng pw_okd_201 (by omega) h201
  by_cases h211 : mi < 221
  · exact pw_rng pw_okd_211 (by omega) h211
  by_cases h221 : mi < 231
  · exact pw_rng pw_okd_221 (by omega) h221
  by_cases h231 : mi < 241
  · exact pw_rng pw_okd_231 (by omega) h231
  by_cases h241 : mi < 251
  · exact pw_rng pw_okd_241 (by omega) h241
  by_cases h251 : mi < 261
  · exact pw_rng pw_okd_251 (by omega) h251
  by_cases h261 : mi < 271
  · exact pw_rng pw_okd_261 (by omega) h261
  by_cases h271 : mi < 281
  · exact pw_rng pw_okd_271 (by omega) h271
  by_cases h281 : mi < 291
  · exact pw_rng pw_okd_281 (by omega) h281
  by_cases h291 : mi < 301
  · exact pw_rng pw_okd_291 (by omega) h291
  by_cases h301 : mi < 311
  · exact pw_rng pw_okd_301 (by omega) h301
  by_cases h311 : mi < 321
  · exact pw_rng pw_okd_311 (by omega) h311
  by_cases h321 : mi < 331
  · exact pw_rng pw_okd_321 (by omega) h321
  by_cases h331 : mi < 339
  · exact pw_rng pw_okd_331 (by omega) h331
  omega
theorem pw_code_lt {mi pc : Nat} {ins : Instr} (h : pw_code mi pc = some ins) : mi < 339 := by
  by_cases hm : mi < 339
  · exact hm
  · by_cases ht : 342 ≤ mi
    · unfold pw_code at h
      rw [am_g2_out pw_code_l [] (show 18 * pw_code_l.length ≤ mi from ht)] at h
      cases h
    · have hc : mi = 339 ∨ mi = 340 ∨ mi = 341 := by omega
      rcases hc with rfl | rfl | rfl <;> cases h
theorem pw_G1 (L : Nat) (xs : Nat → Int32) : am_G1 (pw_P L xs) pw_B := by
  intro mi pc ins h
  replace h : pw_code mi pc = some ins := h
  have hl := pw_code_lt h
  have hk := pw_okd_all hl
  unfold pw_okd at hk
  have hq := List.all_eq_true.mp hk _ (am_fdm h)
  unfold pw_okq at hq
  dsimp only at hq
  split at hq
  · rename_i i n hd
    simp only [Bool.and_eq_true, Bool.or_eq_true, decide_eq_true_eq] at hq
    obtain ⟨rfl, hn⟩ := hq
    exact ⟨n, hd, hn.imp Nat.eq_of_beq_eq_true Nat.eq_of_beq_eq_true⟩
  · cases hq
