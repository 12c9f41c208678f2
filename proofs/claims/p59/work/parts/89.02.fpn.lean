/-! ===== 64: no NaN comes of these ===== -/
theorem fp_t64 : FP.Core.b64.tails = 4503599627370496 := by decide +kernel
theorem fp_x64 : FP.Core.b64.exps = 2048 := by decide +kernel
theorem fp_qn64 : FP.Core.b64.qmin = -1074 := by decide +kernel
theorem fp_qx64 : FP.Core.b64.qmax = 971 := by decide +kernel
theorem fp_p64 : 2 ^ FP.Core.b64.p = 9007199254740992 := by decide +kernel
theorem fp_pi64 : ((FP.Core.b64.p : Nat) : Int) - 1 = 52 := by decide +kernel
def fp_g64 (d : FP.Core.Datum) : Prop := match d with
  | .nan => False
  | .inf _ => True
  | .fin _ c q => c < 9007199254740992 ∧ q ≤ 971
theorem fp_enc64 {d : FP.Core.Datum} (h : fp_g64 d) : FP.Core.encode FP.Core.b64 d % 9223372036854775808 ≤ 9218868437227405312 := by
  cases d with
  | nan => cases h
  | inf s =>
    show FP.Core.assemble FP.Core.b64 s (FP.Core.b64.exps - 1) 0 % 9223372036854775808 ≤ 9218868437227405312
    unfold FP.Core.assemble
    rw [fp_x64, fp_t64]
    have : s.toNat ≤ 1 := Bool.toNat_le s
    omega
  | fin s c q =>
    obtain ⟨h1, h2⟩ := h
    show (if c < FP.Core.b64.tails then FP.Core.assemble FP.Core.b64 s 0 c else FP.Core.assemble FP.Core.b64 s ((q - FP.Core.b64.qmin).toNat + 1) (c - FP.Core.b64.tails)) % 9223372036854775808 ≤ 9218868437227405312
    unfold FP.Core.assemble
    rw [fp_x64, fp_t64, fp_qn64]
    have : s.toNat ≤ 1 := Bool.toNat_le s
    split <;> omega
theorem fp_dec64 {n : Nat} (h : n % 9223372036854775808 ≤ 9218868437227405312) : fp_g64 (FP.Core.decode FP.Core.b64 n) := by
  unfold FP.Core.decode FP.Core.fieldE FP.Core.fieldT FP.Core.fieldS
  rw [fp_x64, fp_t64, fp_qn64]
  by_cases h1 : n / 4503599627370496 % 2048 = 2048 - 1
  · rw [if_pos h1]
    by_cases h2 : n % 4503599627370496 = 0
    · rw [if_pos h2]; exact True.intro
    · exfalso; omega
  · rw [if_neg h1]
    by_cases h2 : n / 4503599627370496 % 2048 = 0
    · rw [if_pos h2]
      exact ⟨by omega, by omega⟩
    · rw [if_neg h2]
      exact ⟨by omega, by omega⟩
theorem fp_fin64 {n : Nat} (h : n % 9223372036854775808 < 9218868437227405312) (h0 : n % 9223372036854775808 ≠ 0) : ∃ s d r, FP.Core.decode FP.Core.b64 n = .fin s d r ∧ d ≠ 0 := by
  unfold FP.Core.decode FP.Core.fieldE FP.Core.fieldT
  rw [fp_x64, fp_t64, fp_qn64]
  by_cases h1 : n / 4503599627370496 % 2048 = 2048 - 1
  · exfalso; omega
  · rw [if_neg h1]
    by_cases h2 : n / 4503599627370496 % 2048 = 0
    · rw [if_pos h2]
      exact ⟨_, _, _, rfl, by omega⟩
    · rw [if_neg h2]
      exact ⟨_, _, _, rfl, by omega⟩
theorem fp_bd64 (s : Bool) {c : Nat} (hc : c < 9007199254740992) (q : Int) : fp_g64 (FP.Core.bound FP.Core.b64 s c q) := by
  unfold FP.Core.bound
  rw [fp_qx64]
  by_cases h : q ≤ 971
  · rw [if_pos h]; exact ⟨hc, h⟩
  · rw [if_neg h]; exact True.intro
theorem fp_rr64 (s : Bool) (num den : Nat) (e : Int) : fp_g64 (FP.Core.roundRatio FP.Core.b64 s num den e) := by
  unfold FP.Core.roundRatio
  by_cases h : num = 0
  · rw [if_pos h]
    refine ⟨by decide, ?_⟩
    rw [fp_qn64]
    decide
  · rw [if_neg h]
    unfold FP.Core.roundAt FP.Core.settle
    rw [fp_p64, fp_t64]
    split
    · rename_i hc
      exact fp_bd64 s hc _
    · exact fp_bd64 s (by decide) _
theorem fp_rd64 {d : FP.Core.Datum} (h : d ≠ .nan) : fp_g64 (FP.Core.round FP.Core.b64 d) := by
  cases d with
  | nan => exact absurd rfl h
  | inf s => exact True.intro
  | fin s c q => exact fp_rr64 s c 1 q
theorem fp_n64 (x : UInt64) : vf_n64 x ↔ x.toNat % 9223372036854775808 ≤ 9218868437227405312 := by
  unfold vf_n64
  rw [UInt64.le_iff_toNat_le, UInt64.toNat_and]
  have h1 : (0x7fffffffffffffff : UInt64).toNat = 2 ^ 63 - 1 := by decide
  have h2 : (0x7ff0000000000000 : UInt64).toNat = 9218868437227405312 := by decide
  rw [h1, h2, Nat.and_two_pow_sub_one_eq_mod]
theorem fp_of64 {n : Nat} (h : n % 9223372036854775808 ≤ 9218868437227405312) : vf_n64 (UInt64.ofNat n) := by
  rw [fp_n64, UInt64.toNat_ofNat']
  omega
theorem fp_nn64 {x : UInt64} (h : vf_n64 x) : fp_g64 (FP.Core.decode FP.Core.b64 x.toNat) := fp_dec64 ((fp_n64 x).mp h)
theorem fp_div64 {a b : UInt64} (ha : vf_n64 a) (hb : b.toNat % 9223372036854775808 < 9218868437227405312) (hz : b.toNat % 9223372036854775808 ≠ 0) : vf_n64 (FP.ddiv a b) := by
  refine fp_of64 (fp_enc64 ?_)
  have h1 := fp_nn64 ha
  obtain ⟨t, d, r, e, hd⟩ := fp_fin64 hb hz
  rw [e]
  generalize FP.Core.decode FP.Core.b64 a.toNat = x at h1
  cases x with
  | nan => cases h1
  | inf s => exact True.intro
  | fin s c q =>
    show fp_g64 (if d = 0 then (if c = 0 then .nan else .inf (s != t)) else FP.Core.roundRatio FP.Core.b64 (s != t) c d (q - r))
    rw [if_neg hd]
    exact fp_rr64 _ _ _ _
theorem fp_sub64 {a b : UInt64} (ha : vf_n64 a) (hb : b.toNat % 9223372036854775808 < 9218868437227405312) (hz : b.toNat % 9223372036854775808 ≠ 0) : vf_n64 (FP.dsub a b) := by
  refine fp_of64 (fp_enc64 (fp_rd64 ?_))
  have h1 := fp_nn64 ha
  obtain ⟨t, d, r, e, hd⟩ := fp_fin64 hb hz
  rw [e]
  generalize FP.Core.decode FP.Core.b64 a.toNat = x at h1
  cases x with
  | nan => cases h1
  | inf s => intro h; cases h
  | fin s c q => intro h; cases h
theorem fp_mul64 {a b : UInt64} (ha : vf_n64 a) (hb : b.toNat % 9223372036854775808 < 9218868437227405312) (hz : b.toNat % 9223372036854775808 ≠ 0) : vf_n64 (FP.dmul a b) := by
  refine fp_of64 (fp_enc64 (fp_rd64 ?_))
  have h1 := fp_nn64 ha
  obtain ⟨t, d, r, e, hd⟩ := fp_fin64 hb hz
  rw [e]
  generalize FP.Core.decode FP.Core.b64 a.toNat = x at h1
  cases x with
  | nan => cases h1
  | inf s =>
    show (if d = 0 then FP.Core.Datum.nan else .inf (s != t)) ≠ .nan
    rw [if_neg hd]
    intro h; cases h
  | fin s c q => intro h; cases h
/-- a whole number other than 0 -/
theorem fp_whole64 (s : Bool) {num : Nat} (h1 : 1 ≤ num) (h2 : num < 18446744073709551616) : ∃ c q, FP.Core.roundRatio FP.Core.b64 s num 1 0 = .fin s c q ∧ c ≠ 0 ∧ c < 9007199254740992 ∧ q ≤ 971 := by
  have hn : num ≠ 0 := by omega
  have hle : 2 ^ num.log2 ≤ num := Nat.log2_self_le hn
  have hlt : num.log2 < 64 := (Nat.log2_lt hn).mpr h2
  have hlead : FP.Core.leading num 1 = (num.log2 : Int) := by
    unfold FP.Core.leading
    have e1 : Nat.log2 1 = 0 := by decide +kernel
    rw [e1]
    have e2 : ((num.log2 : Int) - ((0 : Nat) : Int)).toNat = num.log2 := by omega
    have e3 : (-((num.log2 : Int) - ((0 : Nat) : Int))).toNat = 0 := by omega
    dsimp only
    rw [e2, e3, Nat.pow_zero, Nat.mul_one, Nat.one_mul, if_pos hle]
    omega
  have hq : FP.Core.quantum FP.Core.b64 num 1 0 = max (-1074) ((num.log2 : Int) - 52) := by
    unfold FP.Core.quantum
    rw [hlead, fp_qn64, fp_pi64]
    congr 1
  unfold FP.Core.roundRatio
  rw [if_neg hn, hq]
  generalize hqg : max (-1074 : Int) ((num.log2 : Int) - 52) = q
  have hq1 : q ≤ 64 := by omega
  unfold FP.Core.roundAt FP.Core.settle FP.Core.bound
  rw [fp_p64, fp_t64, fp_qx64]
  have hU : 1 ≤ FP.Core.nearest (FP.Core.unitsNum num 0 q) (FP.Core.unitsDen 1 0 q) := by
    have hd : 1 ≤ FP.Core.unitsNum num 0 q / FP.Core.unitsDen 1 0 q := by
      unfold FP.Core.unitsNum FP.Core.unitsDen
      refine Nat.div_pos ?_ ?_
      · by_cases hq0 : q ≤ 0
        · have e : (q - 0).toNat = 0 := by omega
          rw [e, Nat.pow_zero]
          have := Nat.mul_le_mul h1 (Nat.one_le_two_pow (n := (0 - q).toNat))
          omega
        · have e : (0 - q).toNat = 0 := by omega
          rw [e, Nat.pow_zero, Nat.mul_one, Nat.one_mul]
          have : (q - 0).toNat ≤ num.log2 := by omega
          exact Nat.le_trans (Nat.pow_le_pow_right (by decide) this) hle
      · rw [Nat.one_mul]
        exact Nat.one_le_two_pow
    unfold FP.Core.nearest
    split
    · exact hd
    · split <;> omega
  generalize FP.Core.nearest (FP.Core.unitsNum num 0 q) (FP.Core.unitsDen 1 0 q) = c at hU
  by_cases hc : c < 9007199254740992
  · rw [if_pos hc, if_pos (by omega)]
    exact ⟨c, q, rfl, by omega, hc, by omega⟩
  · rw [if_neg hc, if_pos (by omega)]
    exact ⟨4503599627370496, q + 1, rfl, by decide, by decide, by omega⟩
theorem fp_of_int64 (a : Int64) : vf_n64 (FP.l2d a) ∧ (a ≠ 0 → (FP.l2d a).toNat % 9223372036854775808 < 9218868437227405312 ∧ (FP.l2d a).toNat % 9223372036854775808 ≠ 0) := by
  refine ⟨fp_of64 (fp_enc64 (fp_rd64 (fun h => by cases h))), fun ha => ?_⟩
  have hb := (⟨Int64.le_toInt a, Int64.toInt_lt a⟩ : -2 ^ 63 ≤ a.toInt ∧ a.toInt < 2 ^ 63)
  have hne : a.toInt ≠ 0 := fun h => ha (Int64.toInt.inj h)
  obtain ⟨c, q, e, c0, c1, c2⟩ := fp_whole64 (decide (a.toInt < 0)) (num := a.toInt.natAbs) (by omega) (by omega)
  have he : FP.l2d a = UInt64.ofNat (FP.Core.encode FP.Core.b64 (.fin (decide (a.toInt < 0)) c q)) := by
    rw [← e]
    rfl
  rw [he, UInt64.toNat_ofNat']
  generalize decide (a.toInt < 0) = s
  have hs : s.toNat ≤ 1 := Bool.toNat_le s
  have hm : FP.Core.encode FP.Core.b64 (.fin s c q) % 9223372036854775808 < 9218868437227405312 ∧ FP.Core.encode FP.Core.b64 (.fin s c q) % 9223372036854775808 ≠ 0 := by
    show (if c < FP.Core.b64.tails then FP.Core.assemble FP.Core.b64 s 0 c else FP.Core.assemble FP.Core.b64 s ((q - FP.Core.b64.qmin).toNat + 1) (c - FP.Core.b64.tails)) % 9223372036854775808 < 9218868437227405312 ∧ (if c < FP.Core.b64.tails then FP.Core.assemble FP.Core.b64 s 0 c else FP.Core.assemble FP.Core.b64 s ((q - FP.Core.b64.qmin).toNat + 1) (c - FP.Core.b64.tails)) % 9223372036854775808 ≠ 0
    unfold FP.Core.assemble
    rw [fp_x64, fp_t64, fp_qn64]
    split <;> omega
  omega
/-! ===== 32: no NaN comes of these ===== -/
theorem fp_t32 : FP.Core.b32.tails = 8388608 := by decide +kernel
theorem fp_x32 : FP.Core.b32.exps = 256 := by decide +kernel
theorem fp_qn32 : FP.Core.b32.qmin = -149 := by decide +kernel
theorem fp_qx32 : FP.Core.b32.qmax = 104 := by decide +kernel
theorem fp_p32 : 2 ^ FP.Core.b32.p = 16777216 := by decide +kernel
theorem fp_pi32 : ((FP.Core.b32.p : Nat) : Int) - 1 = 23 := by decide +kernel
def fp_g32 (d : FP.Core.Datum) : Prop := match d with
  | .nan => False
  | .inf _ => True
  | .fin _ c q => c < 16777216 ∧ q ≤ 104
theorem fp_enc32 {d : FP.Core.Datum} (h : fp_g32 d) : FP.Core.encode FP.Core.b32 d % 2147483648 ≤ 2139095040 := by
  cases d with
  | nan => cases h
  | inf s =>
    show FP.Core.assemble FP.Core.b32 s (FP.Core.b32.exps - 1) 0 % 2147483648 ≤ 2139095040
    unfold FP.Core.assemble
    rw [fp_x32, fp_t32]
    have : s.toNat ≤ 1 := Bool.toNat_le s
    omega
  | fin s c q =>
    obtain ⟨h1, h2⟩ := h
    show (if c < FP.Core.b32.tails then FP.Core.assemble FP.Core.b32 s 0 c else FP.Core.assemble FP.Core.b32 s ((q - FP.Core.b32.qmin).toNat + 1) (c - FP.Core.b32.tails)) % 2147483648 ≤ 2139095040
    unfold FP.Core.assemble
    rw [fp_x32, fp_t32, fp_qn32]
    have : s.toNat ≤ 1 := Bool.toNat_le s
    split <;> omega
theorem fp_dec32 {n : Nat} (h : n % 2147483648 ≤ 2139095040) : fp_g32 (FP.Core.decode FP.Core.b32 n) := by
  unfold FP.Core.decode FP.Core.fieldE FP.Core.fieldT FP.Core.fieldS
  rw [fp_x32, fp_t32, fp_qn32]
  by_cases h1 : n / 8388608 % 256 = 256 - 1
  · rw [if_pos h1]
    by_cases h2 : n % 8388608 = 0
    · rw [if_pos h2]; exact True.intro
    · exfalso; omega
  · rw [if_neg h1]
    by_cases h2 : n / 8388608 % 256 = 0
    · rw [if_pos h2]
      exact ⟨by omega, by omega⟩
    · rw [if_neg h2]
      exact ⟨by omega, by omega⟩
theorem fp_fin32 {n : Nat} (h : n % 2147483648 < 2139095040) (h0 : n % 2147483648 ≠ 0) : ∃ s d r, FP.Core.decode FP.Core.b32 n = .fin s d r ∧ d ≠ 0 := by
  unfold FP.Core.decode FP.Core.fieldE FP.Core.fieldT
  rw [fp_x32, fp_t32, fp_qn32]
  by_cases h1 : n / 8388608 % 256 = 256 - 1
  · exfalso; omega
  · rw [if_neg h1]
    by_cases h2 : n / 8388608 % 256 = 0
    · rw [if_pos h2]
      exact ⟨_, _, _, rfl, by omega⟩
    · rw [if_neg h2]
      exact ⟨_, _, _, rfl, by omega⟩
theorem fp_bd32 (s : Bool) {c : Nat} (hc : c < 16777216) (q : Int) : fp_g32 (FP.Core.bound FP.Core.b32 s c q) := by
  unfold FP.Core.bound
  rw [fp_qx32]
  by_cases h : q ≤ 104
  · rw [if_pos h]; exact ⟨hc, h⟩
  · rw [if_neg h]; exact True.intro
theorem fp_rr32 (s : Bool) (num den : Nat) (e : Int) : fp_g32 (FP.Core.roundRatio FP.Core.b32 s num den e) := by
  unfold FP.Core.roundRatio
  by_cases h : num = 0
  · rw [if_pos h]
    refine ⟨by decide, ?_⟩
    rw [fp_qn32]
    decide
  · rw [if_neg h]
    unfold FP.Core.roundAt FP.Core.settle
    rw [fp_p32, fp_t32]
    split
    · rename_i hc
      exact fp_bd32 s hc _
    · exact fp_bd32 s (by decide) _
theorem fp_rd32 {d : FP.Core.Datum} (h : d ≠ .nan) : fp_g32 (FP.Core.round FP.Core.b32 d) := by
  cases d with
  | nan => exact absurd rfl h
  | inf s => exact True.intro
  | fin s c q => exact fp_rr32 s c 1 q
theorem fp_n32 (x : UInt32) : vf_n32 x ↔ x.toNat % 2147483648 ≤ 2139095040 := by
  unfold vf_n32
  rw [UInt32.le_iff_toNat_le, UInt32.toNat_and]
  have h1 : (0x7fffffff : UInt32).toNat = 2 ^ 31 - 1 := by decide
  have h2 : (0x7f800000 : UInt32).toNat = 2139095040 := by decide
  rw [h1, h2, Nat.and_two_pow_sub_one_eq_mod]
theorem fp_of32 {n : Nat} (h : n % 2147483648 ≤ 2139095040) : vf_n32 (UInt32.ofNat n) := by
  rw [fp_n32, UInt32.toNat_ofNat']
  omega
theorem fp_nn32 {x : UInt32} (h : vf_n32 x) : fp_g32 (FP.Core.decode FP.Core.b32 x.toNat) := fp_dec32 ((fp_n32 x).mp h)
theorem fp_div32 {a b : UInt32} (ha : vf_n32 a) (hb : b.toNat % 2147483648 < 2139095040) (hz : b.toNat % 2147483648 ≠ 0) : vf_n32 (FP.fdiv a b) := by
  refine fp_of32 (fp_enc32 ?_)
  have h1 := fp_nn32 ha
  obtain ⟨t, d, r, e, hd⟩ := fp_fin32 hb hz
  rw [e]
  generalize FP.Core.decode FP.Core.b32 a.toNat = x at h1
  cases x with
  | nan => cases h1
  | inf s => exact True.intro
  | fin s c q =>
    show fp_g32 (if d = 0 then (if c = 0 then .nan else .inf (s != t)) else FP.Core.roundRatio FP.Core.b32 (s != t) c d (q - r))
    rw [if_neg hd]
    exact fp_rr32 _ _ _ _
theorem fp_sub32 {a b : UInt32} (ha : vf_n32 a) (hb : b.toNat % 2147483648 < 2139095040) (hz : b.toNat % 2147483648 ≠ 0) : vf_n32 (FP.fsub a b) := by
  refine fp_of32 (fp_enc32 (fp_rd32 ?_))
  have h1 := fp_nn32 ha
  obtain ⟨t, d, r, e, hd⟩ := fp_fin32 hb hz
  rw [e]
  generalize FP.Core.decode FP.Core.b32 a.toNat = x at h1
  cases x with
  | nan => cases h1
  | inf s => intro h; cases h
  | fin s c q => intro h; cases h
theorem fp_mul32 {a b : UInt32} (ha : vf_n32 a) (hb : b.toNat % 2147483648 < 2139095040) (hz : b.toNat % 2147483648 ≠ 0) : vf_n32 (FP.fmul a b) := by
  refine fp_of32 (fp_enc32 (fp_rd32 ?_))
  have h1 := fp_nn32 ha
  obtain ⟨t, d, r, e, hd⟩ := fp_fin32 hb hz
  rw [e]
  generalize FP.Core.decode FP.Core.b32 a.toNat = x at h1
  cases x with
  | nan => cases h1
  | inf s =>
    show (if d = 0 then FP.Core.Datum.nan else .inf (s != t)) ≠ .nan
    rw [if_neg hd]
    intro h; cases h
  | fin s c q => intro h; cases h
/-- a whole number other than 0 -/
theorem fp_whole32 (s : Bool) {num : Nat} (h1 : 1 ≤ num) (h2 : num < 4294967296) : ∃ c q, FP.Core.roundRatio FP.Core.b32 s num 1 0 = .fin s c q ∧ c ≠ 0 ∧ c < 16777216 ∧ q ≤ 104 := by
  have hn : num ≠ 0 := by omega
  have hle : 2 ^ num.log2 ≤ num := Nat.log2_self_le hn
  have hlt : num.log2 < 32 := (Nat.log2_lt hn).mpr h2
  have hlead : FP.Core.leading num 1 = (num.log2 : Int) := by
    unfold FP.Core.leading
    have e1 : Nat.log2 1 = 0 := by decide +kernel
    rw [e1]
    have e2 : ((num.log2 : Int) - ((0 : Nat) : Int)).toNat = num.log2 := by omega
    have e3 : (-((num.log2 : Int) - ((0 : Nat) : Int))).toNat = 0 := by omega
    dsimp only
    rw [e2, e3, Nat.pow_zero, Nat.mul_one, Nat.one_mul, if_pos hle]
    omega
  have hq : FP.Core.quantum FP.Core.b32 num 1 0 = max (-149) ((num.log2 : Int) - 23) := by
    unfold FP.Core.quantum
    rw [hlead, fp_qn32, fp_pi32]
    congr 1
  unfold FP.Core.roundRatio
  rw [if_neg hn, hq]
  generalize hqg : max (-149 : Int) ((num.log2 : Int) - 23) = q
  have hq1 : q ≤ 32 := by omega
  unfold FP.Core.roundAt FP.Core.settle FP.Core.bound
  rw [fp_p32, fp_t32, fp_qx32]
  have hU : 1 ≤ FP.Core.nearest (FP.Core.unitsNum num 0 q) (FP.Core.unitsDen 1 0 q) := by
    have hd : 1 ≤ FP.Core.unitsNum num 0 q / FP.Core.unitsDen 1 0 q := by
      unfold FP.Core.unitsNum FP.Core.unitsDen
      refine Nat.div_pos ?_ ?_
      · by_cases hq0 : q ≤ 0
        · have e : (q - 0).toNat = 0 := by omega
          rw [e, Nat.pow_zero]
          have := Nat.mul_le_mul h1 (Nat.one_le_two_pow (n := (0 - q).toNat))
          omega
        · have e : (0 - q).toNat = 0 := by omega
          rw [e, Nat.pow_zero, Nat.mul_one, Nat.one_mul]
          have : (q - 0).toNat ≤ num.log2 := by omega
          exact Nat.le_trans (Nat.pow_le_pow_right (by decide) this) hle
      · rw [Nat.one_mul]
        exact Nat.one_le_two_pow
    unfold FP.Core.nearest
    split
    · exact hd
    · split <;> omega
  generalize FP.Core.nearest (FP.Core.unitsNum num 0 q) (FP.Core.unitsDen 1 0 q) = c at hU
  by_cases hc : c < 16777216
  · rw [if_pos hc, if_pos (by omega)]
    exact ⟨c, q, rfl, by omega, hc, by omega⟩
  · rw [if_neg hc, if_pos (by omega)]
    exact ⟨8388608, q + 1, rfl, by decide, by decide, by omega⟩
theorem fp_of_int32 (a : Int32) : vf_n32 (FP.i2f a) ∧ (a ≠ 0 → (FP.i2f a).toNat % 2147483648 < 2139095040 ∧ (FP.i2f a).toNat % 2147483648 ≠ 0) := by
  refine ⟨fp_of32 (fp_enc32 (fp_rd32 (fun h => by cases h))), fun ha => ?_⟩
  have hb := at_i32 a
  have hne : a.toInt ≠ 0 := fun h => ha (Int32.toInt.inj h)
  obtain ⟨c, q, e, c0, c1, c2⟩ := fp_whole32 (decide (a.toInt < 0)) (num := a.toInt.natAbs) (by omega) (by omega)
  have he : FP.i2f a = UInt32.ofNat (FP.Core.encode FP.Core.b32 (.fin (decide (a.toInt < 0)) c q)) := by
    rw [← e]
    rfl
  rw [he, UInt32.toNat_ofNat']
  generalize decide (a.toInt < 0) = s
  have hs : s.toNat ≤ 1 := Bool.toNat_le s
  have hm : FP.Core.encode FP.Core.b32 (.fin s c q) % 2147483648 < 2139095040 ∧ FP.Core.encode FP.Core.b32 (.fin s c q) % 2147483648 ≠ 0 := by
    show (if c < FP.Core.b32.tails then FP.Core.assemble FP.Core.b32 s 0 c else FP.Core.assemble FP.Core.b32 s ((q - FP.Core.b32.qmin).toNat + 1) (c - FP.Core.b32.tails)) % 2147483648 < 2139095040 ∧ (if c < FP.Core.b32.tails then FP.Core.assemble FP.Core.b32 s 0 c else FP.Core.assemble FP.Core.b32 s ((q - FP.Core.b32.qmin).toNat + 1) (c - FP.Core.b32.tails)) % 2147483648 ≠ 0
    unfold FP.Core.assemble
    rw [fp_x32, fp_t32, fp_qn32]
    split <;> omega
  omega
