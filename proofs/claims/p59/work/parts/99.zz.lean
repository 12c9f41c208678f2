section
/-! ===== 64: numbers of whole significands; products with powers of two, quotients, differences that are exact ===== -/
section FB64
variable {E F T c d j s : Nat} {e q : Int}
theorem fb_l264 {n m : Nat} (h1 : 2 ^ m ≤ n) (h2 : n < 2 ^ (m + 1)) : n.log2 = m := by
  have h0 : n ≠ 0 := by
    have := Nat.two_pow_pos m
    omega
  exact (Nat.log2_eq_iff h0).mpr ⟨h1, h2⟩
theorem fb_dec64 (h1 : 1 ≤ E) (h2 : E < 2048 - 1) (hT : T < 4503599627370496) : FP.Core.decode FP.Core.b64 (E * 4503599627370496 + T) = .fin false (4503599627370496 + T) (-1074 + ((E : Int) - 1)) := by
  unfold FP.Core.decode FP.Core.fieldE FP.Core.fieldT FP.Core.fieldS
  rw [fp_x64, fp_t64, fp_qn64]
  have a : (E * 4503599627370496 + T) / 4503599627370496 = E := by omega
  have b : (E * 4503599627370496 + T) % 4503599627370496 = T := by omega
  rw [a, b, Nat.mod_eq_of_lt (show E < 2048 by omega), Nat.div_eq_of_lt (show E < 2048 by omega), if_neg (by omega), if_neg (by omega)]
  rfl
theorem fb_d064 : FP.Core.decode FP.Core.b64 0 = .fin false 0 (-1074) := by decide +kernel
theorem fb_enc64 (h1 : 1 ≤ E) (hc : 4503599627370496 ≤ c) (hq : q = -1074 + ((E : Int) - 1)) : FP.Core.encode FP.Core.b64 (.fin false c q) = E * 4503599627370496 + (c - 4503599627370496) := by
  show (if c < FP.Core.b64.tails then FP.Core.assemble FP.Core.b64 false 0 c else FP.Core.assemble FP.Core.b64 false ((q - FP.Core.b64.qmin).toNat + 1) (c - FP.Core.b64.tails)) = _
  unfold FP.Core.assemble
  rw [fp_x64, fp_t64, fp_qn64, if_neg (by omega)]
  have a : (q - (-1074)).toNat + 1 = E := by omega
  rw [a]
  show (0 * 2048 + E) * 4503599627370496 + (c - 4503599627370496) = _
  rw [Nat.zero_mul, Nat.zero_add]
/-- what is settled -/
theorem fb_set64 (hc : c < 2 * 4503599627370496) (hq : q ≤ 971) : FP.Core.settle FP.Core.b64 false c q = .fin false c q := by
  unfold FP.Core.settle FP.Core.bound
  rw [fp_p64, fp_qx64, if_pos (by omega), if_pos hq]
theorem fb_near {a b : Nat} (hb : 0 < b) : FP.Core.nearest (a * b) b = a := by
  unfold FP.Core.nearest
  rw [Nat.mul_mod_left, if_pos (by omega), Nat.mul_div_cancel _ hb]
/-- a significand, moved up by j digits: exact -/
theorem fb_up64 (h1 : 4503599627370496 ≤ c) (h2 : c < 2 * 4503599627370496) (hq1 : -1074 ≤ e + j) (hq2 : e + j ≤ 971) : FP.Core.roundRatio FP.Core.b64 false (c * 2 ^ j) 1 e = .fin false c (e + j) := by
  have hj := Nat.two_pow_pos j
  have n0 : c * 2 ^ j ≠ 0 := Nat.mul_ne_zero (by omega) (by omega)
  have l1 : (c * 2 ^ j).log2 = 52 + j := by
    refine fb_l264 ?_ ?_
    · rw [Nat.pow_add]
      exact Nat.mul_le_mul_right _ (by omega)
    · rw [show 52 + j + 1 = (52 + 1) + j by omega, Nat.pow_add]
      exact Nat.mul_lt_mul_of_pos_right (by omega) hj
  have l2 : (1 : Nat).log2 = 0 := by decide +kernel
  have ld : FP.Core.leading (c * 2 ^ j) 1 = ((52 + j : Nat) : Int) := by
    unfold FP.Core.leading
    rw [l1, l2]
    dsimp only
    rw [if_pos]
    · omega
    · have a1 : (((52 + j : Nat) : Int) - ((0 : Nat) : Int)).toNat = 52 + j := by omega
      have a2 : (-(((52 + j : Nat) : Int) - ((0 : Nat) : Int))).toNat = 0 := by omega
      rw [a1, a2, Nat.one_mul, Nat.pow_zero, Nat.mul_one, Nat.pow_add]
      exact Nat.mul_le_mul_right _ (by omega)
  have qu : FP.Core.quantum FP.Core.b64 (c * 2 ^ j) 1 e = e + j := by
    unfold FP.Core.quantum
    rw [ld, fp_qn64, fp_pi64]
    omega
  unfold FP.Core.roundRatio
  rw [if_neg n0, qu]
  unfold FP.Core.roundAt FP.Core.unitsNum FP.Core.unitsDen
  have b1 : (e - (e + j)).toNat = 0 := by omega
  have b2 : (e + j - e).toNat = j := by omega
  rw [b1, b2, Nat.pow_zero, Nat.mul_one, Nat.one_mul, fb_near hj]
  exact fb_set64 h2 hq2
/-- a number of fewer digits, written with all: exact -/
theorem fb_fill64 {n : Nat} (h1 : 4503599627370496 ≤ n * 2 ^ s) (h2 : n * 2 ^ s < 2 * 4503599627370496) (hq1 : -1074 ≤ e - s) (hq2 : e - s ≤ 971) : FP.Core.roundRatio FP.Core.b64 false n 1 e = .fin false (n * 2 ^ s) (e - s) := by
  have hs := Nat.two_pow_pos s
  have n0 : n ≠ 0 := fun h => by rw [h, Nat.zero_mul] at h1; omega
  have s52 : s ≤ 52 := by
    apply Classical.byContradiction
    intro h
    have a : 2 ^ (52 + 1) ≤ 2 ^ s := Nat.pow_le_pow_right (by decide) (by omega)
    have b : 1 * 2 ^ s ≤ n * 2 ^ s := Nat.mul_le_mul_right _ (by omega)
    omega
  have e2 : 2 ^ (52 - s) * 2 ^ s = 4503599627370496 := by
    rw [← Nat.pow_add, show 52 - s + s = 52 by omega]
  have l1 : n.log2 = 52 - s := by
    refine fb_l264 ?_ ?_
    · exact Nat.le_of_mul_le_mul_right (by rw [e2]; exact h1) hs
    · refine Nat.lt_of_mul_lt_mul_right (a := 2 ^ s) ?_
      rw [Nat.pow_succ, Nat.mul_right_comm, e2]
      omega
  have l2 : (1 : Nat).log2 = 0 := by decide +kernel
  have ld : FP.Core.leading n 1 = ((52 - s : Nat) : Int) := by
    unfold FP.Core.leading
    rw [l1, l2]
    dsimp only
    rw [if_pos]
    · omega
    · have a1 : (((52 - s : Nat) : Int) - ((0 : Nat) : Int)).toNat = 52 - s := by omega
      have a2 : (-(((52 - s : Nat) : Int) - ((0 : Nat) : Int))).toNat = 0 := by omega
      rw [a1, a2, Nat.one_mul, Nat.pow_zero, Nat.mul_one]
      exact Nat.le_of_mul_le_mul_right (by rw [e2]; exact h1) hs
  have qu : FP.Core.quantum FP.Core.b64 n 1 e = e - s := by
    unfold FP.Core.quantum
    rw [ld, fp_qn64, fp_pi64]
    omega
  unfold FP.Core.roundRatio
  rw [if_neg n0, qu]
  unfold FP.Core.roundAt FP.Core.unitsNum FP.Core.unitsDen
  have b1 : (e - (e - s)).toNat = s := by omega
  have b2 : (e - s - e).toNat = 0 := by omega
  rw [b1, b2, Nat.pow_zero, Nat.mul_one]
  have nn : FP.Core.nearest (n * 2 ^ s) 1 = n * 2 ^ s := by
    have := fb_near (a := n * 2 ^ s) (b := 1) (by decide)
    rw [Nat.mul_one] at this
    exact this
  rw [nn]
  exact fb_set64 h2 hq2
/-- every number has such an s -/
theorem fb_ex64 {n : Nat} (h0 : n ≠ 0) (h : n < 2 * 4503599627370496) : ∃ s, s ≤ 52 ∧ 4503599627370496 ≤ n * 2 ^ s ∧ n * 2 ^ s < 2 * 4503599627370496 ∧ n.log2 + s = 52 := by
  have a := Nat.log2_self_le h0
  have b := @Nat.lt_log2_self n
  have l : n.log2 ≤ 52 := by
    apply Classical.byContradiction
    intro hl
    have : 2 ^ (52 + 1) ≤ 2 ^ n.log2 := Nat.pow_le_pow_right (by decide) (by omega)
    omega
  refine ⟨52 - n.log2, by omega, ?_, ?_, by omega⟩
  · have e : 2 ^ n.log2 * 2 ^ (52 - n.log2) = 4503599627370496 := by rw [← Nat.pow_add, show n.log2 + (52 - n.log2) = 52 by omega]
    have := Nat.mul_le_mul_right (2 ^ (52 - n.log2)) a
    omega
  · have e : 2 ^ (n.log2 + 1) * 2 ^ (52 - n.log2) = 2 * 4503599627370496 := by rw [← Nat.pow_add, show n.log2 + 1 + (52 - n.log2) = 52 + 1 by omega]
    have := Nat.mul_lt_mul_of_pos_right b (Nat.two_pow_pos (52 - n.log2))
    omega
/-- times a power of two -/
theorem fb_mul64 (h1 : 1 ≤ E) (h2 : E < 2048 - 1) (hT : T < 4503599627370496) (f1 : 1 ≤ F) (f2 : F < 2048 - 1) (g1 : 1023 + 1 ≤ E + F) (g2 : E + F < 1023 + 2048 - 1) : FP.Core.mul FP.Core.b64 (E * 4503599627370496 + T) (F * 4503599627370496) = (E + F - 1023) * 4503599627370496 + T := by
  unfold FP.Core.mul
  have d2 := fb_dec64 (T := 0) f1 f2 (by decide)
  rw [Nat.add_zero] at d2
  rw [fb_dec64 h1 h2 hT, d2]
  show FP.Core.encode _ (FP.Core.roundRatio FP.Core.b64 (false != false) ((4503599627370496 + T) * (4503599627370496 + 0)) 1 _) = _
  have := fb_up64 (c := 4503599627370496 + T) (j := 52) (e := (-1074 + ((E : Int) - 1)) + (-1074 + ((F : Int) - 1))) (by omega) (by omega) (by omega) (by omega)
  rw [show (4503599627370496 + 0) = 2 ^ 52 from by decide]
  show FP.Core.encode _ (FP.Core.roundRatio FP.Core.b64 false ((4503599627370496 + T) * 2 ^ 52) 1 ((-1074 + ((E : Int) - 1)) + (-1074 + ((F : Int) - 1)))) = _
  rw [this, fb_enc64 (E := E + F - 1023) (by omega) (by omega) (by omega)]
  omega
theorem fb_mul064 (f1 : 1 ≤ F) (f2 : F < 2048 - 1) : FP.Core.mul FP.Core.b64 0 (F * 4503599627370496) = 0 := by
  unfold FP.Core.mul
  have d2 := fb_dec64 (T := 0) f1 f2 (by decide)
  rw [Nat.add_zero] at d2
  rw [fb_d064, d2]
  show FP.Core.encode FP.Core.b64 (FP.Core.roundRatio FP.Core.b64 (false != false) (0 * (4503599627370496 + 0)) 1 _) = _
  rw [Nat.zero_mul]
  unfold FP.Core.roundRatio
  rw [if_pos rfl, fp_qn64]
  decide +kernel
/-- less one: what stands behind the point -/
theorem fb_sub164 (hT : T < 4503599627370496) : FP.Core.sub FP.Core.b64 (1023 * 4503599627370496 + T) (1023 * 4503599627370496) = FP.Core.encode FP.Core.b64 (FP.Core.roundRatio FP.Core.b64 false T 1 (-52)) := by
  unfold FP.Core.sub
  have d2 := fb_dec64 (E := 1023) (T := 0) (by decide) (by decide) (by decide)
  rw [Nat.add_zero] at d2
  rw [fb_dec64 (by decide) (by decide) hT, d2]
  have ee : (-1074 + (((1023 : Nat) : Int) - 1)) = (-52 : Int) := by decide
  rw [ee]
  have su : FP.Core.sumUnits false (4503599627370496 + T) (-52) (!false) (4503599627370496 + 0) (-52) (min (-52) (-52)) = (T : Int) := by
    unfold FP.Core.sumUnits FP.Core.inUnits FP.Core.signed
    have z : ((-52 : Int) - min (-52) (-52)).toNat = 0 := by decide
    rw [z, Nat.pow_zero, Nat.mul_one, Nat.mul_one]
    show ((4503599627370496 + T : Nat) : Int) + -((4503599627370496 + 0 : Nat) : Int) = T
    omega
  show FP.Core.encode _ (FP.Core.roundRatio FP.Core.b64 (FP.Core.sumSign false (!false) (FP.Core.sumUnits false (4503599627370496 + T) (-52) (!false) (4503599627370496 + 0) (-52) (min (-52) (-52)))) (FP.Core.sumUnits false (4503599627370496 + T) (-52) (!false) (4503599627370496 + 0) (-52) (min (-52) (-52))).natAbs 1 (min (-52) (-52))) = _
  rw [su]
  have sg : FP.Core.sumSign false (!false) (T : Int) = false := by
    unfold FP.Core.sumSign
    split
    · rfl
    · exact decide_eq_false (by omega)
  rw [sg]
  rfl
/-- that, as a whole number -/
theorem fb_frac64 (hT : T < 4503599627370496) : FP.Core.mul FP.Core.b64 (FP.Core.sub FP.Core.b64 (1023 * 4503599627370496 + T) (1023 * 4503599627370496)) (1075 * 4503599627370496) = FP.Core.fromInt FP.Core.b64 (T : Int) := by
  rw [fb_sub164 hT]
  unfold FP.Core.fromInt FP.Core.ofInt
  have si : decide ((T : Int) < 0) = false := decide_eq_false (by omega)
  rw [si]
  show _ = FP.Core.encode _ (FP.Core.roundRatio FP.Core.b64 false (T : Int).natAbs 1 0)
  rw [Int.natAbs_natCast]
  by_cases h0 : T = 0
  · subst h0
    have z : FP.Core.encode FP.Core.b64 (FP.Core.roundRatio FP.Core.b64 false 0 1 (-52)) = 0 := by decide +kernel
    rw [z, fb_mul064 (by decide) (by decide)]
    decide +kernel
  · obtain ⟨s, s1, s2, s3, -⟩ := fb_ex64 h0 (by omega)
    rw [fb_fill64 s2 s3 (by omega) (by omega), fb_fill64 s2 s3 (by omega) (by omega)]
    rw [fb_enc64 (E := 1023 - s) (by omega) s2 (by omega), fb_enc64 (E := 1075 - s) (by omega) s2 (by omega)]
    rw [fb_mul64 (by omega) (by omega) (by omega) (by decide) (by decide) (by omega) (by omega)]
    rw [show 1023 - s + 1075 - 1023 = 1075 - s by omega]
/-- whole numbers there and back -/
theorem fb_int64 (h0 : T ≠ 0) (hT : T < 2 * 4503599627370496) : ∃ s, s ≤ 52 ∧ 4503599627370496 ≤ T * 2 ^ s ∧ T * 2 ^ s < 2 * 4503599627370496 ∧ T.log2 + s = 52 ∧ FP.Core.fromInt FP.Core.b64 (T : Int) = (1075 - s) * 4503599627370496 + (T * 2 ^ s - 4503599627370496) := by
  obtain ⟨s, s1, s2, s3, s4⟩ := fb_ex64 h0 hT
  refine ⟨s, s1, s2, s3, s4, ?_⟩
  unfold FP.Core.fromInt FP.Core.ofInt
  have si : decide ((T : Int) < 0) = false := decide_eq_false (by omega)
  rw [si]
  show FP.Core.encode _ (FP.Core.roundRatio FP.Core.b64 false (T : Int).natAbs 1 0) = _
  rw [Int.natAbs_natCast, fb_fill64 s2 s3 (by omega) (by omega), fb_enc64 (E := 1075 - s) (by omega) s2 (by omega)]
theorem fb_toint64 {lo hi : Int} (hT : T < 2 * 4503599627370496) (hl : lo ≤ 0) (hh : (T : Int) ≤ hi) : FP.Core.toInt lo hi (FP.Core.decode FP.Core.b64 (FP.Core.fromInt FP.Core.b64 (T : Int))) = T := by
  by_cases h0 : T = 0
  · subst h0
    have z : FP.Core.fromInt FP.Core.b64 ((0 : Nat) : Int) = 0 := by decide +kernel
    rw [z, fb_d064]
    show max lo (min hi (FP.Core.truncate false 0 (-1074))) = _
    have : FP.Core.truncate false 0 (-1074) = 0 := by
      unfold FP.Core.truncate FP.Core.signed
      rw [Nat.zero_mul, Nat.zero_div]
      rfl
    rw [this]
    omega
  · obtain ⟨s, s1, s2, s3, -, e⟩ := fb_int64 h0 hT
    rw [e, fb_dec64 (by omega) (by omega) (by omega)]
    show max lo (min hi (FP.Core.truncate false (4503599627370496 + (T * 2 ^ s - 4503599627370496)) (-1074 + (((1075 - s : Nat) : Int) - 1)))) = _
    have tr : FP.Core.truncate false (4503599627370496 + (T * 2 ^ s - 4503599627370496)) (-1074 + (((1075 - s : Nat) : Int) - 1)) = T := by
      unfold FP.Core.truncate FP.Core.signed
      have a1 : (-1074 + (((1075 - s : Nat) : Int) - 1)).toNat = 0 := by omega
      have a2 : (-(-1074 + (((1075 - s : Nat) : Int) - 1))).toNat = s := by omega
      rw [a1, a2, Nat.pow_zero, Nat.mul_one, show 4503599627370496 + (T * 2 ^ s - 4503599627370496) = T * 2 ^ s by omega, Nat.mul_div_cancel _ (Nat.two_pow_pos s)]
      rfl
    rw [tr]
    omega
/-- the order of such numbers -/
theorem fb_cmp64 (h1 : 1 ≤ E) (h2 : E < 2048 - 1) (hT : T < 4503599627370496) (f1 : 1 ≤ F) (f2 : F < 2048 - 1) : (E < F → FP.Core.cmp FP.Core.b64 (E * 4503599627370496 + T) (F * 4503599627370496) = some .lt) ∧ (F ≤ E → FP.Core.cmp FP.Core.b64 (E * 4503599627370496 + T) (F * 4503599627370496) = some .eq ∨ FP.Core.cmp FP.Core.b64 (E * 4503599627370496 + T) (F * 4503599627370496) = some .gt) := by
  have d2 := fb_dec64 (T := 0) f1 f2 (by decide)
  rw [Nat.add_zero, Nat.add_zero] at d2
  unfold FP.Core.cmp
  rw [fb_dec64 h1 h2 hT, d2]
  show (E < F → some (compare (FP.Core.signed false (FP.Core.inUnits (4503599627370496 + T) (-1074 + ((E : Int) - 1)) (min (-1074 + ((E : Int) - 1)) (-1074 + ((F : Int) - 1))))) (FP.Core.signed false (FP.Core.inUnits 4503599627370496 (-1074 + ((F : Int) - 1)) (min (-1074 + ((E : Int) - 1)) (-1074 + ((F : Int) - 1)))))) = some .lt) ∧ (F ≤ E → some (compare (FP.Core.signed false (FP.Core.inUnits (4503599627370496 + T) (-1074 + ((E : Int) - 1)) (min (-1074 + ((E : Int) - 1)) (-1074 + ((F : Int) - 1))))) (FP.Core.signed false (FP.Core.inUnits 4503599627370496 (-1074 + ((F : Int) - 1)) (min (-1074 + ((E : Int) - 1)) (-1074 + ((F : Int) - 1)))))) = some .eq ∨ some (compare (FP.Core.signed false (FP.Core.inUnits (4503599627370496 + T) (-1074 + ((E : Int) - 1)) (min (-1074 + ((E : Int) - 1)) (-1074 + ((F : Int) - 1))))) (FP.Core.signed false (FP.Core.inUnits 4503599627370496 (-1074 + ((F : Int) - 1)) (min (-1074 + ((E : Int) - 1)) (-1074 + ((F : Int) - 1)))))) = some .gt)
  unfold FP.Core.inUnits FP.Core.signed
  refine ⟨fun h => ?_, fun h => ?_⟩
  · have a1 : (-1074 + ((E : Int) - 1) - min (-1074 + ((E : Int) - 1)) (-1074 + ((F : Int) - 1))).toNat = 0 := by omega
    have a2 : (-1074 + ((F : Int) - 1) - min (-1074 + ((E : Int) - 1)) (-1074 + ((F : Int) - 1))).toNat = (F - E - 1) + 1 := by omega
    have b := Nat.two_pow_pos (F - E - 1)
    have lt : (4503599627370496 + T) * 2 ^ 0 < 4503599627370496 * 2 ^ ((F - E - 1) + 1) := by
      rw [Nat.pow_zero, Nat.mul_one, Nat.pow_succ]
      have : 4503599627370496 * 1 ≤ 4503599627370496 * 2 ^ (F - E - 1) := Nat.mul_le_mul_left _ b
      omega
    rw [a1, a2]
    show some (compareOfLessAndEq _ _) = _
    unfold compareOfLessAndEq
    rw [if_pos (by simp only [Bool.false_eq_true, if_false]; omega)]
  · have a1 : (-1074 + ((E : Int) - 1) - min (-1074 + ((E : Int) - 1)) (-1074 + ((F : Int) - 1))).toNat = E - F := by omega
    have a2 : (-1074 + ((F : Int) - 1) - min (-1074 + ((E : Int) - 1)) (-1074 + ((F : Int) - 1))).toNat = 0 := by omega
    have b := Nat.two_pow_pos (E - F)
    have le : 4503599627370496 * 2 ^ 0 ≤ (4503599627370496 + T) * 2 ^ (E - F) := by
      rw [Nat.pow_zero, Nat.mul_one]
      have : (4503599627370496 + T) * 1 ≤ (4503599627370496 + T) * 2 ^ (E - F) := Nat.mul_le_mul_left _ b
      omega
    rw [a1, a2]
    simp only [Bool.false_eq_true, if_false]
    show some (compareOfLessAndEq _ _) = _ ∨ some (compareOfLessAndEq _ _) = _
    unfold compareOfLessAndEq
    rw [if_neg (by omega)]
    by_cases e : (((4503599627370496 + T) * 2 ^ (E - F) : Nat) : Int) = ((4503599627370496 * 2 ^ 0 : Nat) : Int)
    · rw [if_pos e]
      exact Or.inl rfl
    · rw [if_neg e]
      exact Or.inr rfl
/-- above nothing -/
theorem fb_pos64 (h1 : 1 ≤ E) (h2 : E < 2048 - 1) (hT : T < 4503599627370496) : FP.Core.cmp FP.Core.b64 (E * 4503599627370496 + T) 0 = some .gt := by
  unfold FP.Core.cmp
  rw [fb_dec64 h1 h2 hT, fb_d064]
  show some (compareOfLessAndEq (((4503599627370496 + T) * 2 ^ (-1074 + ((E : Int) - 1) - min (-1074 + ((E : Int) - 1)) (-1074)).toNat : Nat) : Int) ((0 * 2 ^ ((-1074 : Int) - min (-1074 + ((E : Int) - 1)) (-1074)).toNat : Nat) : Int)) = _
  have b := Nat.two_pow_pos (-1074 + ((E : Int) - 1) - min (-1074 + ((E : Int) - 1)) (-1074)).toNat
  have : (4503599627370496 + T) * 1 ≤ (4503599627370496 + T) * 2 ^ (-1074 + ((E : Int) - 1) - min (-1074 + ((E : Int) - 1)) (-1074)).toNat := Nat.mul_le_mul_left _ b
  rw [Nat.zero_mul]
  unfold compareOfLessAndEq
  rw [if_neg (by omega), if_neg (by omega)]
theorem fb_zero64 : FP.Core.cmp FP.Core.b64 0 0 = some .eq := by decide +kernel
/-- by a power of two -/
theorem fb_half64 (h1 : 1 ≤ E) (h2 : E < 2048 - 1) (hT : T < 4503599627370496) (f1 : 1 ≤ F) (f2 : F < 2048 - 1) (g1 : F < E + 1023) (g2 : E + 1023 < F + 2048 - 1) : FP.Core.div FP.Core.b64 (E * 4503599627370496 + T) (F * 4503599627370496) = (E + 1023 - F) * 4503599627370496 + T := by
  unfold FP.Core.div
  have d2 := fb_dec64 (T := 0) f1 f2 (by decide)
  rw [Nat.add_zero, Nat.add_zero] at d2
  rw [fb_dec64 h1 h2 hT, d2]
  show FP.Core.encode FP.Core.b64 (if 4503599627370496 = 0 then (if 4503599627370496 + T = 0 then .nan else .inf (false != false)) else FP.Core.roundRatio FP.Core.b64 (false != false) (4503599627370496 + T) 4503599627370496 ((-1074 + ((E : Int) - 1)) - (-1074 + ((F : Int) - 1)))) = _
  rw [if_neg (by decide)]
  have lt : (4503599627370496 + T).log2 = 52 := fb_l264 (by omega) (by omega)
  have l2 : (4503599627370496 : Nat).log2 = 52 := by decide +kernel
  have ld : FP.Core.leading (4503599627370496 + T) 4503599627370496 = 0 := by
    unfold FP.Core.leading
    rw [lt, l2]
    dsimp only
    rw [Int.sub_self, if_pos]
    show 4503599627370496 * 2 ^ 0 ≤ (4503599627370496 + T) * 2 ^ 0
    omega
  unfold FP.Core.roundRatio
  rw [if_neg (by omega)]
  have qu : FP.Core.quantum FP.Core.b64 (4503599627370496 + T) 4503599627370496 (-1074 + ((E : Int) - 1) - (-1074 + ((F : Int) - 1))) = (E : Int) - F - 52 := by
    unfold FP.Core.quantum
    rw [ld, fp_qn64, fp_pi64]
    omega
  rw [qu]
  unfold FP.Core.roundAt FP.Core.unitsNum FP.Core.unitsDen
  have b1 : (-1074 + ((E : Int) - 1) - (-1074 + ((F : Int) - 1)) - ((E : Int) - F - 52)).toNat = 52 := by omega
  have b2 : ((E : Int) - F - 52 - (-1074 + ((E : Int) - 1) - (-1074 + ((F : Int) - 1)))).toNat = 0 := by omega
  rw [b1, b2, Nat.pow_zero, Nat.mul_one, show (2 ^ 52 : Nat) = 4503599627370496 from by decide, fb_near (by decide)]
  show FP.Core.encode _ (FP.Core.settle FP.Core.b64 false (4503599627370496 + T) _) = _
  rw [fb_set64 (by omega) (by omega), fb_enc64 (E := E + 1023 - F) (by omega) (by omega) (by omega)]
  omega
/-- a quotient of such numbers that is at most one -/
theorem fb_quo64 (h1 : 1 ≤ E) (h2 : E < 2048 - 1) (hT : T < 4503599627370496) (f1 : 1 ≤ F) (f2 : F < 2048 - 1) (hd : d < 4503599627370496) (g1 : F + 1 < E + 1023) (g2 : E + 1023 + 1 < F + 2048 - 1) : ∃ G U, U < 4503599627370496 ∧ FP.Core.div FP.Core.b64 (E * 4503599627370496 + T) (F * 4503599627370496 + d) = G * 4503599627370496 + U ∧ E + 1023 - 1 ≤ G + F ∧ G + F ≤ E + 1023 + 1 ∧ (G + F = E + 1023 + 1 → U = 0) ∧ (T < d → G + F ≤ E + 1023 ∧ (G + F = E + 1023 → U = 0)) := by
  unfold FP.Core.div
  rw [fb_dec64 h1 h2 hT, fb_dec64 f1 f2 hd]
  show ∃ G U, U < 4503599627370496 ∧ FP.Core.encode FP.Core.b64 (if 4503599627370496 + d = 0 then (if 4503599627370496 + T = 0 then .nan else .inf (false != false)) else FP.Core.roundRatio FP.Core.b64 (false != false) (4503599627370496 + T) (4503599627370496 + d) ((-1074 + ((E : Int) - 1)) - (-1074 + ((F : Int) - 1)))) = G * 4503599627370496 + U ∧ _
  rw [if_neg (by omega)]
  have lt : (4503599627370496 + T).log2 = 52 := fb_l264 (by omega) (by omega)
  have l2 : (4503599627370496 + d).log2 = 52 := fb_l264 (by omega) (by omega)
  have ld : FP.Core.leading (4503599627370496 + T) (4503599627370496 + d) = if T < d then -1 else 0 := by
    unfold FP.Core.leading
    rw [lt, l2]
    dsimp only
    rw [Int.sub_self]
    show (if (4503599627370496 + d) * 2 ^ 0 ≤ (4503599627370496 + T) * 2 ^ 0 then (0 : Int) else 0 - 1) = _
    by_cases h : T < d
    · rw [if_pos h, if_neg (by omega)]
      rfl
    · rw [if_neg h, if_pos (by omega)]
  -- with the last digit at exponent q
  have key : ∀ (k : Nat) (num den : Nat), 0 < den → 4503599627370496 * den ≤ num → num < 2 * 4503599627370496 * den → 1 ≤ k → k < 2048 - 2 → ∃ G U, U < 4503599627370496 ∧ FP.Core.encode FP.Core.b64 (FP.Core.settle FP.Core.b64 false (FP.Core.nearest num den) (-1074 + ((k : Int) - 1))) = G * 4503599627370496 + U ∧ (G = k ∨ (G = k + 1 ∧ U = 0)) := by
    intro k num den hd0 n1 n2 k1 k2
    have c1 : 4503599627370496 ≤ num / den := (Nat.le_div_iff_mul_le hd0).mpr n1
    have c2 : num / den < 2 * 4503599627370496 := (Nat.div_lt_iff_lt_mul hd0).mpr n2
    have cn : 4503599627370496 ≤ FP.Core.nearest num den ∧ FP.Core.nearest num den ≤ 2 * 4503599627370496 := by
      unfold FP.Core.nearest
      repeat' split
      all_goals omega
    by_cases e : FP.Core.nearest num den < 2 * 4503599627370496
    · refine ⟨k, FP.Core.nearest num den - 4503599627370496, by omega, ?_, Or.inl rfl⟩
      rw [fb_set64 e (by omega), fb_enc64 (E := k) k1 cn.1 (by omega)]
    · refine ⟨k + 1, 0, by decide, ?_, Or.inr ⟨rfl, rfl⟩⟩
      have e2 : FP.Core.nearest num den = 2 * 4503599627370496 := by omega
      unfold FP.Core.settle FP.Core.bound
      rw [e2, fp_p64, fp_qx64, fp_t64, if_neg (by decide), if_pos (by omega), fb_enc64 (E := k + 1) (by omega) (by decide) (by omega)]
  unfold FP.Core.roundRatio
  rw [if_neg (by omega)]
  unfold FP.Core.roundAt FP.Core.quantum
  rw [ld, fp_qn64, fp_pi64]
  show ∃ G U, U < 4503599627370496 ∧ FP.Core.encode _ (FP.Core.settle FP.Core.b64 false _ _) = G * 4503599627370496 + U ∧ _
  unfold FP.Core.unitsNum FP.Core.unitsDen
  by_cases h : T < d
  · rw [if_pos h]
    have q : max (-1074) (-1 + (-1074 + ((E : Int) - 1) - (-1074 + ((F : Int) - 1))) - 52) = -1074 + (((E + 1023 - F - 1 : Nat) : Int) - 1) := by omega
    rw [q]
    have b1 : (-1074 + ((E : Int) - 1) - (-1074 + ((F : Int) - 1)) - (-1074 + (((E + 1023 - F - 1 : Nat) : Int) - 1))).toNat = 52 + 1 := by omega
    have b2 : (-1074 + (((E + 1023 - F - 1 : Nat) : Int) - 1) - (-1074 + ((E : Int) - 1) - (-1074 + ((F : Int) - 1)))).toNat = 0 := by omega
    rw [b1, b2, Nat.pow_zero, Nat.mul_one, show (2 ^ (52 + 1) : Nat) = 2 * 4503599627370496 from by decide]
    obtain ⟨G, U, u, e, r⟩ := key (E + 1023 - F - 1) ((4503599627370496 + T) * (2 * 4503599627370496)) (4503599627370496 + d) (by omega) (by
      rw [Nat.mul_comm (4503599627370496 + T), Nat.mul_comm 2, Nat.mul_assoc]
      exact Nat.mul_le_mul_left _ (by omega)) (by
      rw [Nat.mul_comm (4503599627370496 + T)]
      exact Nat.mul_lt_mul_of_pos_left (by omega) (by decide)) (by omega) (by omega)
    refine ⟨G, U, u, e, ?_⟩
    rcases r with rfl | ⟨rfl, rfl⟩ <;> refine ⟨by omega, by omega, fun _ => by omega, fun _ => ⟨by omega, fun _ => by omega⟩⟩
  · rw [if_neg h]
    have q : max (-1074) (0 + (-1074 + ((E : Int) - 1) - (-1074 + ((F : Int) - 1))) - 52) = -1074 + (((E + 1023 - F : Nat) : Int) - 1) := by omega
    rw [q]
    have b1 : (-1074 + ((E : Int) - 1) - (-1074 + ((F : Int) - 1)) - (-1074 + (((E + 1023 - F : Nat) : Int) - 1))).toNat = 52 := by omega
    have b2 : (-1074 + (((E + 1023 - F : Nat) : Int) - 1) - (-1074 + ((E : Int) - 1) - (-1074 + ((F : Int) - 1)))).toNat = 0 := by omega
    rw [b1, b2, Nat.pow_zero, Nat.mul_one, show (2 ^ 52 : Nat) = 4503599627370496 from by decide]
    obtain ⟨G, U, u, e, r⟩ := key (E + 1023 - F) ((4503599627370496 + T) * 4503599627370496) (4503599627370496 + d) (by omega) (by
      rw [Nat.mul_comm (4503599627370496 + T)]
      exact Nat.mul_le_mul_left _ (by omega)) (by
      rw [Nat.mul_comm (4503599627370496 + T), Nat.mul_comm 2, Nat.mul_assoc]
      exact Nat.mul_lt_mul_of_pos_left (by omega) (by decide)) (by omega) (by omega)
    refine ⟨G, U, u, e, ?_⟩
    rcases r with rfl | ⟨rfl, rfl⟩ <;> refine ⟨by omega, by omega, fun _ => by first | rfl | omega, fun hh => absurd hh h⟩
/-- a number by itself -/
theorem fb_one64 (h1 : 1 ≤ E) (h2 : E < 2048 - 1) (hT : T < 4503599627370496) : FP.Core.div FP.Core.b64 (E * 4503599627370496 + T) (E * 4503599627370496 + T) = 1023 * 4503599627370496 := by
  unfold FP.Core.div
  rw [fb_dec64 h1 h2 hT]
  show FP.Core.encode FP.Core.b64 (if 4503599627370496 + T = 0 then (if 4503599627370496 + T = 0 then .nan else .inf (false != false)) else FP.Core.roundRatio FP.Core.b64 (false != false) (4503599627370496 + T) (4503599627370496 + T) ((-1074 + ((E : Int) - 1)) - (-1074 + ((E : Int) - 1)))) = _
  rw [if_neg (by omega), Int.sub_self]
  have lt : (4503599627370496 + T).log2 = 52 := fb_l264 (by omega) (by omega)
  have ld : FP.Core.leading (4503599627370496 + T) (4503599627370496 + T) = 0 := by
    unfold FP.Core.leading
    dsimp only
    rw [Int.sub_self, if_pos]
    exact Nat.le_refl _
  unfold FP.Core.roundRatio
  rw [if_neg (by omega)]
  unfold FP.Core.roundAt FP.Core.quantum FP.Core.unitsNum FP.Core.unitsDen
  rw [ld, fp_qn64, fp_pi64]
  have q : max (-1074 : Int) (0 + 0 - 52) = -52 := by decide
  rw [q]
  have b1 : ((0 : Int) - -52).toNat = 52 := by decide
  have b2 : ((-52 : Int) - 0).toNat = 0 := by decide
  rw [b1, b2, Nat.pow_zero, Nat.mul_one, Nat.mul_comm, show (2 ^ 52 : Nat) = 4503599627370496 from by decide, fb_near (by omega)]
  decide +kernel
theorem fb_sublt64 (hT : T < 4503599627370496) : FP.Core.sub FP.Core.b64 (1023 * 4503599627370496 + T) (1023 * 4503599627370496) < 9223372036854775808 := by
  rw [fb_sub164 hT]
  by_cases h0 : T = 0
  · subst h0
    decide +kernel
  · obtain ⟨s, s1, s2, s3, -⟩ := fb_ex64 h0 (by omega)
    rw [fb_fill64 s2 s3 (by omega) (by omega), fb_enc64 (E := 1023 - s) (by omega) s2 (by omega)]
    omega
theorem fb_intlt64 (hT : T < 2 * 4503599627370496) : FP.Core.fromInt FP.Core.b64 (T : Int) < 9223372036854775808 := by
  by_cases h0 : T = 0
  · subst h0
    decide +kernel
  · obtain ⟨s, s1, s2, s3, -, e⟩ := fb_int64 h0 hT
    rw [e]
    omega
end FB64
/-! ===== 32: numbers of whole significands; products with powers of two, quotients, differences that are exact ===== -/
section FB32
variable {E F T c d j s : Nat} {e q : Int}
theorem fb_l232 {n m : Nat} (h1 : 2 ^ m ≤ n) (h2 : n < 2 ^ (m + 1)) : n.log2 = m := by
  have h0 : n ≠ 0 := by
    have := Nat.two_pow_pos m
    omega
  exact (Nat.log2_eq_iff h0).mpr ⟨h1, h2⟩
theorem fb_dec32 (h1 : 1 ≤ E) (h2 : E < 256 - 1) (hT : T < 8388608) : FP.Core.decode FP.Core.b32 (E * 8388608 + T) = .fin false (8388608 + T) (-149 + ((E : Int) - 1)) := by
  unfold FP.Core.decode FP.Core.fieldE FP.Core.fieldT FP.Core.fieldS
  rw [fp_x32, fp_t32, fp_qn32]
  have a : (E * 8388608 + T) / 8388608 = E := by omega
  have b : (E * 8388608 + T) % 8388608 = T := by omega
  rw [a, b, Nat.mod_eq_of_lt (show E < 256 by omega), Nat.div_eq_of_lt (show E < 256 by omega), if_neg (by omega), if_neg (by omega)]
  rfl
theorem fb_d032 : FP.Core.decode FP.Core.b32 0 = .fin false 0 (-149) := by decide +kernel
theorem fb_enc32 (h1 : 1 ≤ E) (hc : 8388608 ≤ c) (hq : q = -149 + ((E : Int) - 1)) : FP.Core.encode FP.Core.b32 (.fin false c q) = E * 8388608 + (c - 8388608) := by
  show (if c < FP.Core.b32.tails then FP.Core.assemble FP.Core.b32 false 0 c else FP.Core.assemble FP.Core.b32 false ((q - FP.Core.b32.qmin).toNat + 1) (c - FP.Core.b32.tails)) = _
  unfold FP.Core.assemble
  rw [fp_x32, fp_t32, fp_qn32, if_neg (by omega)]
  have a : (q - (-149)).toNat + 1 = E := by omega
  rw [a]
  show (0 * 256 + E) * 8388608 + (c - 8388608) = _
  rw [Nat.zero_mul, Nat.zero_add]
/-- what is settled -/
theorem fb_set32 (hc : c < 2 * 8388608) (hq : q ≤ 104) : FP.Core.settle FP.Core.b32 false c q = .fin false c q := by
  unfold FP.Core.settle FP.Core.bound
  rw [fp_p32, fp_qx32, if_pos (by omega), if_pos hq]
/-- a significand, moved up by j digits: exact -/
theorem fb_up32 (h1 : 8388608 ≤ c) (h2 : c < 2 * 8388608) (hq1 : -149 ≤ e + j) (hq2 : e + j ≤ 104) : FP.Core.roundRatio FP.Core.b32 false (c * 2 ^ j) 1 e = .fin false c (e + j) := by
  have hj := Nat.two_pow_pos j
  have n0 : c * 2 ^ j ≠ 0 := Nat.mul_ne_zero (by omega) (by omega)
  have l1 : (c * 2 ^ j).log2 = 23 + j := by
    refine fb_l232 ?_ ?_
    · rw [Nat.pow_add]
      exact Nat.mul_le_mul_right _ (by omega)
    · rw [show 23 + j + 1 = (23 + 1) + j by omega, Nat.pow_add]
      exact Nat.mul_lt_mul_of_pos_right (by omega) hj
  have l2 : (1 : Nat).log2 = 0 := by decide +kernel
  have ld : FP.Core.leading (c * 2 ^ j) 1 = ((23 + j : Nat) : Int) := by
    unfold FP.Core.leading
    rw [l1, l2]
    dsimp only
    rw [if_pos]
    · omega
    · have a1 : (((23 + j : Nat) : Int) - ((0 : Nat) : Int)).toNat = 23 + j := by omega
      have a2 : (-(((23 + j : Nat) : Int) - ((0 : Nat) : Int))).toNat = 0 := by omega
      rw [a1, a2, Nat.one_mul, Nat.pow_zero, Nat.mul_one, Nat.pow_add]
      exact Nat.mul_le_mul_right _ (by omega)
  have qu : FP.Core.quantum FP.Core.b32 (c * 2 ^ j) 1 e = e + j := by
    unfold FP.Core.quantum
    rw [ld, fp_qn32, fp_pi32]
    omega
  unfold FP.Core.roundRatio
  rw [if_neg n0, qu]
  unfold FP.Core.roundAt FP.Core.unitsNum FP.Core.unitsDen
  have b1 : (e - (e + j)).toNat = 0 := by omega
  have b2 : (e + j - e).toNat = j := by omega
  rw [b1, b2, Nat.pow_zero, Nat.mul_one, Nat.one_mul, fb_near hj]
  exact fb_set32 h2 hq2
/-- a number of fewer digits, written with all: exact -/
theorem fb_fill32 {n : Nat} (h1 : 8388608 ≤ n * 2 ^ s) (h2 : n * 2 ^ s < 2 * 8388608) (hq1 : -149 ≤ e - s) (hq2 : e - s ≤ 104) : FP.Core.roundRatio FP.Core.b32 false n 1 e = .fin false (n * 2 ^ s) (e - s) := by
  have hs := Nat.two_pow_pos s
  have n0 : n ≠ 0 := fun h => by rw [h, Nat.zero_mul] at h1; omega
  have s52 : s ≤ 23 := by
    apply Classical.byContradiction
    intro h
    have a : 2 ^ (23 + 1) ≤ 2 ^ s := Nat.pow_le_pow_right (by decide) (by omega)
    have b : 1 * 2 ^ s ≤ n * 2 ^ s := Nat.mul_le_mul_right _ (by omega)
    omega
  have e2 : 2 ^ (23 - s) * 2 ^ s = 8388608 := by
    rw [← Nat.pow_add, show 23 - s + s = 23 by omega]
  have l1 : n.log2 = 23 - s := by
    refine fb_l232 ?_ ?_
    · exact Nat.le_of_mul_le_mul_right (by rw [e2]; exact h1) hs
    · refine Nat.lt_of_mul_lt_mul_right (a := 2 ^ s) ?_
      rw [Nat.pow_succ, Nat.mul_right_comm, e2]
      omega
  have l2 : (1 : Nat).log2 = 0 := by decide +kernel
  have ld : FP.Core.leading n 1 = ((23 - s : Nat) : Int) := by
    unfold FP.Core.leading
    rw [l1, l2]
    dsimp only
    rw [if_pos]
    · omega
    · have a1 : (((23 - s : Nat) : Int) - ((0 : Nat) : Int)).toNat = 23 - s := by omega
      have a2 : (-(((23 - s : Nat) : Int) - ((0 : Nat) : Int))).toNat = 0 := by omega
      rw [a1, a2, Nat.one_mul, Nat.pow_zero, Nat.mul_one]
      exact Nat.le_of_mul_le_mul_right (by rw [e2]; exact h1) hs
  have qu : FP.Core.quantum FP.Core.b32 n 1 e = e - s := by
    unfold FP.Core.quantum
    rw [ld, fp_qn32, fp_pi32]
    omega
  unfold FP.Core.roundRatio
  rw [if_neg n0, qu]
  unfold FP.Core.roundAt FP.Core.unitsNum FP.Core.unitsDen
  have b1 : (e - (e - s)).toNat = s := by omega
  have b2 : (e - s - e).toNat = 0 := by omega
  rw [b1, b2, Nat.pow_zero, Nat.mul_one]
  have nn : FP.Core.nearest (n * 2 ^ s) 1 = n * 2 ^ s := by
    have := fb_near (a := n * 2 ^ s) (b := 1) (by decide)
    rw [Nat.mul_one] at this
    exact this
  rw [nn]
  exact fb_set32 h2 hq2
/-- every number has such an s -/
theorem fb_ex32 {n : Nat} (h0 : n ≠ 0) (h : n < 2 * 8388608) : ∃ s, s ≤ 23 ∧ 8388608 ≤ n * 2 ^ s ∧ n * 2 ^ s < 2 * 8388608 ∧ n.log2 + s = 23 := by
  have a := Nat.log2_self_le h0
  have b := @Nat.lt_log2_self n
  have l : n.log2 ≤ 23 := by
    apply Classical.byContradiction
    intro hl
    have : 2 ^ (23 + 1) ≤ 2 ^ n.log2 := Nat.pow_le_pow_right (by decide) (by omega)
    omega
  refine ⟨23 - n.log2, by omega, ?_, ?_, by omega⟩
  · have e : 2 ^ n.log2 * 2 ^ (23 - n.log2) = 8388608 := by rw [← Nat.pow_add, show n.log2 + (23 - n.log2) = 23 by omega]
    have := Nat.mul_le_mul_right (2 ^ (23 - n.log2)) a
    omega
  · have e : 2 ^ (n.log2 + 1) * 2 ^ (23 - n.log2) = 2 * 8388608 := by rw [← Nat.pow_add, show n.log2 + 1 + (23 - n.log2) = 23 + 1 by omega]
    have := Nat.mul_lt_mul_of_pos_right b (Nat.two_pow_pos (23 - n.log2))
    omega
/-- times a power of two -/
theorem fb_mul32 (h1 : 1 ≤ E) (h2 : E < 256 - 1) (hT : T < 8388608) (f1 : 1 ≤ F) (f2 : F < 256 - 1) (g1 : 127 + 1 ≤ E + F) (g2 : E + F < 127 + 256 - 1) : FP.Core.mul FP.Core.b32 (E * 8388608 + T) (F * 8388608) = (E + F - 127) * 8388608 + T := by
  unfold FP.Core.mul
  have d2 := fb_dec32 (T := 0) f1 f2 (by decide)
  rw [Nat.add_zero] at d2
  rw [fb_dec32 h1 h2 hT, d2]
  show FP.Core.encode _ (FP.Core.roundRatio FP.Core.b32 (false != false) ((8388608 + T) * (8388608 + 0)) 1 _) = _
  have := fb_up32 (c := 8388608 + T) (j := 23) (e := (-149 + ((E : Int) - 1)) + (-149 + ((F : Int) - 1))) (by omega) (by omega) (by omega) (by omega)
  rw [show (8388608 + 0) = 2 ^ 23 from by decide]
  show FP.Core.encode _ (FP.Core.roundRatio FP.Core.b32 false ((8388608 + T) * 2 ^ 23) 1 ((-149 + ((E : Int) - 1)) + (-149 + ((F : Int) - 1)))) = _
  rw [this, fb_enc32 (E := E + F - 127) (by omega) (by omega) (by omega)]
  omega
theorem fb_mul032 (f1 : 1 ≤ F) (f2 : F < 256 - 1) : FP.Core.mul FP.Core.b32 0 (F * 8388608) = 0 := by
  unfold FP.Core.mul
  have d2 := fb_dec32 (T := 0) f1 f2 (by decide)
  rw [Nat.add_zero] at d2
  rw [fb_d032, d2]
  show FP.Core.encode FP.Core.b32 (FP.Core.roundRatio FP.Core.b32 (false != false) (0 * (8388608 + 0)) 1 _) = _
  rw [Nat.zero_mul]
  unfold FP.Core.roundRatio
  rw [if_pos rfl, fp_qn32]
  decide +kernel
/-- less one: what stands behind the point -/
theorem fb_sub132 (hT : T < 8388608) : FP.Core.sub FP.Core.b32 (127 * 8388608 + T) (127 * 8388608) = FP.Core.encode FP.Core.b32 (FP.Core.roundRatio FP.Core.b32 false T 1 (-23)) := by
  unfold FP.Core.sub
  have d2 := fb_dec32 (E := 127) (T := 0) (by decide) (by decide) (by decide)
  rw [Nat.add_zero] at d2
  rw [fb_dec32 (by decide) (by decide) hT, d2]
  have ee : (-149 + (((127 : Nat) : Int) - 1)) = (-23 : Int) := by decide
  rw [ee]
  have su : FP.Core.sumUnits false (8388608 + T) (-23) (!false) (8388608 + 0) (-23) (min (-23) (-23)) = (T : Int) := by
    unfold FP.Core.sumUnits FP.Core.inUnits FP.Core.signed
    have z : ((-23 : Int) - min (-23) (-23)).toNat = 0 := by decide
    rw [z, Nat.pow_zero, Nat.mul_one, Nat.mul_one]
    show ((8388608 + T : Nat) : Int) + -((8388608 + 0 : Nat) : Int) = T
    omega
  show FP.Core.encode _ (FP.Core.roundRatio FP.Core.b32 (FP.Core.sumSign false (!false) (FP.Core.sumUnits false (8388608 + T) (-23) (!false) (8388608 + 0) (-23) (min (-23) (-23)))) (FP.Core.sumUnits false (8388608 + T) (-23) (!false) (8388608 + 0) (-23) (min (-23) (-23))).natAbs 1 (min (-23) (-23))) = _
  rw [su]
  have sg : FP.Core.sumSign false (!false) (T : Int) = false := by
    unfold FP.Core.sumSign
    split
    · rfl
    · exact decide_eq_false (by omega)
  rw [sg]
  rfl
/-- that, as a whole number -/
theorem fb_frac32 (hT : T < 8388608) : FP.Core.mul FP.Core.b32 (FP.Core.sub FP.Core.b32 (127 * 8388608 + T) (127 * 8388608)) (150 * 8388608) = FP.Core.fromInt FP.Core.b32 (T : Int) := by
  rw [fb_sub132 hT]
  unfold FP.Core.fromInt FP.Core.ofInt
  have si : decide ((T : Int) < 0) = false := decide_eq_false (by omega)
  rw [si]
  show _ = FP.Core.encode _ (FP.Core.roundRatio FP.Core.b32 false (T : Int).natAbs 1 0)
  rw [Int.natAbs_natCast]
  by_cases h0 : T = 0
  · subst h0
    have z : FP.Core.encode FP.Core.b32 (FP.Core.roundRatio FP.Core.b32 false 0 1 (-23)) = 0 := by decide +kernel
    rw [z, fb_mul032 (by decide) (by decide)]
    decide +kernel
  · obtain ⟨s, s1, s2, s3, -⟩ := fb_ex32 h0 (by omega)
    rw [fb_fill32 s2 s3 (by omega) (by omega), fb_fill32 s2 s3 (by omega) (by omega)]
    rw [fb_enc32 (E := 127 - s) (by omega) s2 (by omega), fb_enc32 (E := 150 - s) (by omega) s2 (by omega)]
    rw [fb_mul32 (by omega) (by omega) (by omega) (by decide) (by decide) (by omega) (by omega)]
    rw [show 127 - s + 150 - 127 = 150 - s by omega]
/-- whole numbers there and back -/
theorem fb_int32 (h0 : T ≠ 0) (hT : T < 2 * 8388608) : ∃ s, s ≤ 23 ∧ 8388608 ≤ T * 2 ^ s ∧ T * 2 ^ s < 2 * 8388608 ∧ T.log2 + s = 23 ∧ FP.Core.fromInt FP.Core.b32 (T : Int) = (150 - s) * 8388608 + (T * 2 ^ s - 8388608) := by
  obtain ⟨s, s1, s2, s3, s4⟩ := fb_ex32 h0 hT
  refine ⟨s, s1, s2, s3, s4, ?_⟩
  unfold FP.Core.fromInt FP.Core.ofInt
  have si : decide ((T : Int) < 0) = false := decide_eq_false (by omega)
  rw [si]
  show FP.Core.encode _ (FP.Core.roundRatio FP.Core.b32 false (T : Int).natAbs 1 0) = _
  rw [Int.natAbs_natCast, fb_fill32 s2 s3 (by omega) (by omega), fb_enc32 (E := 150 - s) (by omega) s2 (by omega)]
theorem fb_toint32 {lo hi : Int} (hT : T < 2 * 8388608) (hl : lo ≤ 0) (hh : (T : Int) ≤ hi) : FP.Core.toInt lo hi (FP.Core.decode FP.Core.b32 (FP.Core.fromInt FP.Core.b32 (T : Int))) = T := by
  by_cases h0 : T = 0
  · subst h0
    have z : FP.Core.fromInt FP.Core.b32 ((0 : Nat) : Int) = 0 := by decide +kernel
    rw [z, fb_d032]
    show max lo (min hi (FP.Core.truncate false 0 (-149))) = _
    have : FP.Core.truncate false 0 (-149) = 0 := by
      unfold FP.Core.truncate FP.Core.signed
      rw [Nat.zero_mul, Nat.zero_div]
      rfl
    rw [this]
    omega
  · obtain ⟨s, s1, s2, s3, -, e⟩ := fb_int32 h0 hT
    rw [e, fb_dec32 (by omega) (by omega) (by omega)]
    show max lo (min hi (FP.Core.truncate false (8388608 + (T * 2 ^ s - 8388608)) (-149 + (((150 - s : Nat) : Int) - 1)))) = _
    have tr : FP.Core.truncate false (8388608 + (T * 2 ^ s - 8388608)) (-149 + (((150 - s : Nat) : Int) - 1)) = T := by
      unfold FP.Core.truncate FP.Core.signed
      have a1 : (-149 + (((150 - s : Nat) : Int) - 1)).toNat = 0 := by omega
      have a2 : (-(-149 + (((150 - s : Nat) : Int) - 1))).toNat = s := by omega
      rw [a1, a2, Nat.pow_zero, Nat.mul_one, show 8388608 + (T * 2 ^ s - 8388608) = T * 2 ^ s by omega, Nat.mul_div_cancel _ (Nat.two_pow_pos s)]
      rfl
    rw [tr]
    omega
/-- the order of such numbers -/
theorem fb_cmp32 (h1 : 1 ≤ E) (h2 : E < 256 - 1) (hT : T < 8388608) (f1 : 1 ≤ F) (f2 : F < 256 - 1) : (E < F → FP.Core.cmp FP.Core.b32 (E * 8388608 + T) (F * 8388608) = some .lt) ∧ (F ≤ E → FP.Core.cmp FP.Core.b32 (E * 8388608 + T) (F * 8388608) = some .eq ∨ FP.Core.cmp FP.Core.b32 (E * 8388608 + T) (F * 8388608) = some .gt) := by
  have d2 := fb_dec32 (T := 0) f1 f2 (by decide)
  rw [Nat.add_zero, Nat.add_zero] at d2
  unfold FP.Core.cmp
  rw [fb_dec32 h1 h2 hT, d2]
  show (E < F → some (compare (FP.Core.signed false (FP.Core.inUnits (8388608 + T) (-149 + ((E : Int) - 1)) (min (-149 + ((E : Int) - 1)) (-149 + ((F : Int) - 1))))) (FP.Core.signed false (FP.Core.inUnits 8388608 (-149 + ((F : Int) - 1)) (min (-149 + ((E : Int) - 1)) (-149 + ((F : Int) - 1)))))) = some .lt) ∧ (F ≤ E → some (compare (FP.Core.signed false (FP.Core.inUnits (8388608 + T) (-149 + ((E : Int) - 1)) (min (-149 + ((E : Int) - 1)) (-149 + ((F : Int) - 1))))) (FP.Core.signed false (FP.Core.inUnits 8388608 (-149 + ((F : Int) - 1)) (min (-149 + ((E : Int) - 1)) (-149 + ((F : Int) - 1)))))) = some .eq ∨ some (compare (FP.Core.signed false (FP.Core.inUnits (8388608 + T) (-149 + ((E : Int) - 1)) (min (-149 + ((E : Int) - 1)) (-149 + ((F : Int) - 1))))) (FP.Core.signed false (FP.Core.inUnits 8388608 (-149 + ((F : Int) - 1)) (min (-149 + ((E : Int) - 1)) (-149 + ((F : Int) - 1)))))) = some .gt)
  unfold FP.Core.inUnits FP.Core.signed
  refine ⟨fun h => ?_, fun h => ?_⟩
  · have a1 : (-149 + ((E : Int) - 1) - min (-149 + ((E : Int) - 1)) (-149 + ((F : Int) - 1))).toNat = 0 := by omega
    have a2 : (-149 + ((F : Int) - 1) - min (-149 + ((E : Int) - 1)) (-149 + ((F : Int) - 1))).toNat = (F - E - 1) + 1 := by omega
    have b := Nat.two_pow_pos (F - E - 1)
    have lt : (8388608 + T) * 2 ^ 0 < 8388608 * 2 ^ ((F - E - 1) + 1) := by
      rw [Nat.pow_zero, Nat.mul_one, Nat.pow_succ]
      have : 8388608 * 1 ≤ 8388608 * 2 ^ (F - E - 1) := Nat.mul_le_mul_left _ b
      omega
    rw [a1, a2]
    show some (compareOfLessAndEq _ _) = _
    unfold compareOfLessAndEq
    rw [if_pos (by simp only [Bool.false_eq_true, if_false]; omega)]
  · have a1 : (-149 + ((E : Int) - 1) - min (-149 + ((E : Int) - 1)) (-149 + ((F : Int) - 1))).toNat = E - F := by omega
    have a2 : (-149 + ((F : Int) - 1) - min (-149 + ((E : Int) - 1)) (-149 + ((F : Int) - 1))).toNat = 0 := by omega
    have b := Nat.two_pow_pos (E - F)
    have le : 8388608 * 2 ^ 0 ≤ (8388608 + T) * 2 ^ (E - F) := by
      rw [Nat.pow_zero, Nat.mul_one]
      have : (8388608 + T) * 1 ≤ (8388608 + T) * 2 ^ (E - F) := Nat.mul_le_mul_left _ b
      omega
    rw [a1, a2]
    simp only [Bool.false_eq_true, if_false]
    show some (compareOfLessAndEq _ _) = _ ∨ some (compareOfLessAndEq _ _) = _
    unfold compareOfLessAndEq
    rw [if_neg (by omega)]
    by_cases e : (((8388608 + T) * 2 ^ (E - F) : Nat) : Int) = ((8388608 * 2 ^ 0 : Nat) : Int)
    · rw [if_pos e]
      exact Or.inl rfl
    · rw [if_neg e]
      exact Or.inr rfl
/-- above nothing -/
theorem fb_pos32 (h1 : 1 ≤ E) (h2 : E < 256 - 1) (hT : T < 8388608) : FP.Core.cmp FP.Core.b32 (E * 8388608 + T) 0 = some .gt := by
  unfold FP.Core.cmp
  rw [fb_dec32 h1 h2 hT, fb_d032]
  show some (compareOfLessAndEq (((8388608 + T) * 2 ^ (-149 + ((E : Int) - 1) - min (-149 + ((E : Int) - 1)) (-149)).toNat : Nat) : Int) ((0 * 2 ^ ((-149 : Int) - min (-149 + ((E : Int) - 1)) (-149)).toNat : Nat) : Int)) = _
  have b := Nat.two_pow_pos (-149 + ((E : Int) - 1) - min (-149 + ((E : Int) - 1)) (-149)).toNat
  have : (8388608 + T) * 1 ≤ (8388608 + T) * 2 ^ (-149 + ((E : Int) - 1) - min (-149 + ((E : Int) - 1)) (-149)).toNat := Nat.mul_le_mul_left _ b
  rw [Nat.zero_mul]
  unfold compareOfLessAndEq
  rw [if_neg (by omega), if_neg (by omega)]
theorem fb_zero32 : FP.Core.cmp FP.Core.b32 0 0 = some .eq := by decide +kernel
/-- by a power of two -/
theorem fb_half32 (h1 : 1 ≤ E) (h2 : E < 256 - 1) (hT : T < 8388608) (f1 : 1 ≤ F) (f2 : F < 256 - 1) (g1 : F < E + 127) (g2 : E + 127 < F + 256 - 1) : FP.Core.div FP.Core.b32 (E * 8388608 + T) (F * 8388608) = (E + 127 - F) * 8388608 + T := by
  unfold FP.Core.div
  have d2 := fb_dec32 (T := 0) f1 f2 (by decide)
  rw [Nat.add_zero, Nat.add_zero] at d2
  rw [fb_dec32 h1 h2 hT, d2]
  show FP.Core.encode FP.Core.b32 (if 8388608 = 0 then (if 8388608 + T = 0 then .nan else .inf (false != false)) else FP.Core.roundRatio FP.Core.b32 (false != false) (8388608 + T) 8388608 ((-149 + ((E : Int) - 1)) - (-149 + ((F : Int) - 1)))) = _
  rw [if_neg (by decide)]
  have lt : (8388608 + T).log2 = 23 := fb_l232 (by omega) (by omega)
  have l2 : (8388608 : Nat).log2 = 23 := by decide +kernel
  have ld : FP.Core.leading (8388608 + T) 8388608 = 0 := by
    unfold FP.Core.leading
    rw [lt, l2]
    dsimp only
    rw [Int.sub_self, if_pos]
    show 8388608 * 2 ^ 0 ≤ (8388608 + T) * 2 ^ 0
    omega
  unfold FP.Core.roundRatio
  rw [if_neg (by omega)]
  have qu : FP.Core.quantum FP.Core.b32 (8388608 + T) 8388608 (-149 + ((E : Int) - 1) - (-149 + ((F : Int) - 1))) = (E : Int) - F - 23 := by
    unfold FP.Core.quantum
    rw [ld, fp_qn32, fp_pi32]
    omega
  rw [qu]
  unfold FP.Core.roundAt FP.Core.unitsNum FP.Core.unitsDen
  have b1 : (-149 + ((E : Int) - 1) - (-149 + ((F : Int) - 1)) - ((E : Int) - F - 23)).toNat = 23 := by omega
  have b2 : ((E : Int) - F - 23 - (-149 + ((E : Int) - 1) - (-149 + ((F : Int) - 1)))).toNat = 0 := by omega
  rw [b1, b2, Nat.pow_zero, Nat.mul_one, show (2 ^ 23 : Nat) = 8388608 from by decide, fb_near (by decide)]
  show FP.Core.encode _ (FP.Core.settle FP.Core.b32 false (8388608 + T) _) = _
  rw [fb_set32 (by omega) (by omega), fb_enc32 (E := E + 127 - F) (by omega) (by omega) (by omega)]
  omega
/-- a quotient of such numbers that is at most one -/
theorem fb_quo32 (h1 : 1 ≤ E) (h2 : E < 256 - 1) (hT : T < 8388608) (f1 : 1 ≤ F) (f2 : F < 256 - 1) (hd : d < 8388608) (g1 : F + 1 < E + 127) (g2 : E + 127 + 1 < F + 256 - 1) : ∃ G U, U < 8388608 ∧ FP.Core.div FP.Core.b32 (E * 8388608 + T) (F * 8388608 + d) = G * 8388608 + U ∧ E + 127 - 1 ≤ G + F ∧ G + F ≤ E + 127 + 1 ∧ (G + F = E + 127 + 1 → U = 0) ∧ (T < d → G + F ≤ E + 127 ∧ (G + F = E + 127 → U = 0)) := by
  unfold FP.Core.div
  rw [fb_dec32 h1 h2 hT, fb_dec32 f1 f2 hd]
  show ∃ G U, U < 8388608 ∧ FP.Core.encode FP.Core.b32 (if 8388608 + d = 0 then (if 8388608 + T = 0 then .nan else .inf (false != false)) else FP.Core.roundRatio FP.Core.b32 (false != false) (8388608 + T) (8388608 + d) ((-149 + ((E : Int) - 1)) - (-149 + ((F : Int) - 1)))) = G * 8388608 + U ∧ _
  rw [if_neg (by omega)]
  have lt : (8388608 + T).log2 = 23 := fb_l232 (by omega) (by omega)
  have l2 : (8388608 + d).log2 = 23 := fb_l232 (by omega) (by omega)
  have ld : FP.Core.leading (8388608 + T) (8388608 + d) = if T < d then -1 else 0 := by
    unfold FP.Core.leading
    rw [lt, l2]
    dsimp only
    rw [Int.sub_self]
    show (if (8388608 + d) * 2 ^ 0 ≤ (8388608 + T) * 2 ^ 0 then (0 : Int) else 0 - 1) = _
    by_cases h : T < d
    · rw [if_pos h, if_neg (by omega)]
      rfl
    · rw [if_neg h, if_pos (by omega)]
  -- with the last digit at exponent q
  have key : ∀ (k : Nat) (num den : Nat), 0 < den → 8388608 * den ≤ num → num < 2 * 8388608 * den → 1 ≤ k → k < 256 - 2 → ∃ G U, U < 8388608 ∧ FP.Core.encode FP.Core.b32 (FP.Core.settle FP.Core.b32 false (FP.Core.nearest num den) (-149 + ((k : Int) - 1))) = G * 8388608 + U ∧ (G = k ∨ (G = k + 1 ∧ U = 0)) := by
    intro k num den hd0 n1 n2 k1 k2
    have c1 : 8388608 ≤ num / den := (Nat.le_div_iff_mul_le hd0).mpr n1
    have c2 : num / den < 2 * 8388608 := (Nat.div_lt_iff_lt_mul hd0).mpr n2
    have cn : 8388608 ≤ FP.Core.nearest num den ∧ FP.Core.nearest num den ≤ 2 * 8388608 := by
      unfold FP.Core.nearest
      repeat' split
      all_goals omega
    by_cases e : FP.Core.nearest num den < 2 * 8388608
    · refine ⟨k, FP.Core.nearest num den - 8388608, by omega, ?_, Or.inl rfl⟩
      rw [fb_set32 e (by omega), fb_enc32 (E := k) k1 cn.1 (by omega)]
    · refine ⟨k + 1, 0, by decide, ?_, Or.inr ⟨rfl, rfl⟩⟩
      have e2 : FP.Core.nearest num den = 2 * 8388608 := by omega
      unfold FP.Core.settle FP.Core.bound
      rw [e2, fp_p32, fp_qx32, fp_t32, if_neg (by decide), if_pos (by omega), fb_enc32 (E := k + 1) (by omega) (by decide) (by omega)]
  unfold FP.Core.roundRatio
  rw [if_neg (by omega)]
  unfold FP.Core.roundAt FP.Core.quantum
  rw [ld, fp_qn32, fp_pi32]
  show ∃ G U, U < 8388608 ∧ FP.Core.encode _ (FP.Core.settle FP.Core.b32 false _ _) = G * 8388608 + U ∧ _
  unfold FP.Core.unitsNum FP.Core.unitsDen
  by_cases h : T < d
  · rw [if_pos h]
    have q : max (-149) (-1 + (-149 + ((E : Int) - 1) - (-149 + ((F : Int) - 1))) - 23) = -149 + (((E + 127 - F - 1 : Nat) : Int) - 1) := by omega
    rw [q]
    have b1 : (-149 + ((E : Int) - 1) - (-149 + ((F : Int) - 1)) - (-149 + (((E + 127 - F - 1 : Nat) : Int) - 1))).toNat = 23 + 1 := by omega
    have b2 : (-149 + (((E + 127 - F - 1 : Nat) : Int) - 1) - (-149 + ((E : Int) - 1) - (-149 + ((F : Int) - 1)))).toNat = 0 := by omega
    rw [b1, b2, Nat.pow_zero, Nat.mul_one, show (2 ^ (23 + 1) : Nat) = 2 * 8388608 from by decide]
    obtain ⟨G, U, u, e, r⟩ := key (E + 127 - F - 1) ((8388608 + T) * (2 * 8388608)) (8388608 + d) (by omega) (by
      rw [Nat.mul_comm (8388608 + T), Nat.mul_comm 2, Nat.mul_assoc]
      exact Nat.mul_le_mul_left _ (by omega)) (by
      rw [Nat.mul_comm (8388608 + T)]
      exact Nat.mul_lt_mul_of_pos_left (by omega) (by decide)) (by omega) (by omega)
    refine ⟨G, U, u, e, ?_⟩
    rcases r with rfl | ⟨rfl, rfl⟩ <;> refine ⟨by omega, by omega, fun _ => by omega, fun _ => ⟨by omega, fun _ => by omega⟩⟩
  · rw [if_neg h]
    have q : max (-149) (0 + (-149 + ((E : Int) - 1) - (-149 + ((F : Int) - 1))) - 23) = -149 + (((E + 127 - F : Nat) : Int) - 1) := by omega
    rw [q]
    have b1 : (-149 + ((E : Int) - 1) - (-149 + ((F : Int) - 1)) - (-149 + (((E + 127 - F : Nat) : Int) - 1))).toNat = 23 := by omega
    have b2 : (-149 + (((E + 127 - F : Nat) : Int) - 1) - (-149 + ((E : Int) - 1) - (-149 + ((F : Int) - 1)))).toNat = 0 := by omega
    rw [b1, b2, Nat.pow_zero, Nat.mul_one, show (2 ^ 23 : Nat) = 8388608 from by decide]
    obtain ⟨G, U, u, e, r⟩ := key (E + 127 - F) ((8388608 + T) * 8388608) (8388608 + d) (by omega) (by
      rw [Nat.mul_comm (8388608 + T)]
      exact Nat.mul_le_mul_left _ (by omega)) (by
      rw [Nat.mul_comm (8388608 + T), Nat.mul_comm 2, Nat.mul_assoc]
      exact Nat.mul_lt_mul_of_pos_left (by omega) (by decide)) (by omega) (by omega)
    refine ⟨G, U, u, e, ?_⟩
    rcases r with rfl | ⟨rfl, rfl⟩ <;> refine ⟨by omega, by omega, fun _ => by first | rfl | omega, fun hh => absurd hh h⟩
/-- a number by itself -/
theorem fb_one32 (h1 : 1 ≤ E) (h2 : E < 256 - 1) (hT : T < 8388608) : FP.Core.div FP.Core.b32 (E * 8388608 + T) (E * 8388608 + T) = 127 * 8388608 := by
  unfold FP.Core.div
  rw [fb_dec32 h1 h2 hT]
  show FP.Core.encode FP.Core.b32 (if 8388608 + T = 0 then (if 8388608 + T = 0 then .nan else .inf (false != false)) else FP.Core.roundRatio FP.Core.b32 (false != false) (8388608 + T) (8388608 + T) ((-149 + ((E : Int) - 1)) - (-149 + ((E : Int) - 1)))) = _
  rw [if_neg (by omega), Int.sub_self]
  have lt : (8388608 + T).log2 = 23 := fb_l232 (by omega) (by omega)
  have ld : FP.Core.leading (8388608 + T) (8388608 + T) = 0 := by
    unfold FP.Core.leading
    dsimp only
    rw [Int.sub_self, if_pos]
    exact Nat.le_refl _
  unfold FP.Core.roundRatio
  rw [if_neg (by omega)]
  unfold FP.Core.roundAt FP.Core.quantum FP.Core.unitsNum FP.Core.unitsDen
  rw [ld, fp_qn32, fp_pi32]
  have q : max (-149 : Int) (0 + 0 - 23) = -23 := by decide
  rw [q]
  have b1 : ((0 : Int) - -23).toNat = 23 := by decide
  have b2 : ((-23 : Int) - 0).toNat = 0 := by decide
  rw [b1, b2, Nat.pow_zero, Nat.mul_one, Nat.mul_comm, show (2 ^ 23 : Nat) = 8388608 from by decide, fb_near (by omega)]
  decide +kernel
theorem fb_sublt32 (hT : T < 8388608) : FP.Core.sub FP.Core.b32 (127 * 8388608 + T) (127 * 8388608) < 2147483648 := by
  rw [fb_sub132 hT]
  by_cases h0 : T = 0
  · subst h0
    decide +kernel
  · obtain ⟨s, s1, s2, s3, -⟩ := fb_ex32 h0 (by omega)
    rw [fb_fill32 s2 s3 (by omega) (by omega), fb_enc32 (E := 127 - s) (by omega) s2 (by omega)]
    omega
theorem fb_intlt32 (hT : T < 2 * 8388608) : FP.Core.fromInt FP.Core.b32 (T : Int) < 2147483648 := by
  by_cases h0 : T = 0
  · subst h0
    decide +kernel
  · obtain ⟨s, s1, s2, s3, -, e⟩ := fb_int32 h0 hT
    rw [e]
    omega
end FB32

end
section
/-! ===== a double's bits, taken apart by hand: they are the bits ===== -/
section FFD
variable {L : Nat} {xs : Nat → Int32} {m : fl_M} {Q : Option fl_V → fl_M → Prop} {E T n : Nat}
theorem ff_un (h : n < 18446744073709551616) : (UInt64.ofNat n).toNat = n := Nat.mod_eq_of_lt h
theorem ff_one : (0x3ff0000000000000 : UInt64).toNat = 1023 * 4503599627370496 := by decide +kernel
theorem ff_two : (0x4000000000000000 : UInt64).toNat = 1024 * 4503599627370496 := by decide +kernel
theorem ff_big : (0x4330000000000000 : UInt64).toNat = 1075 * 4503599627370496 := by decide +kernel
theorem ff_nn {x : UInt64} (h : x.toNat % 9223372036854775808 ≤ 9218868437227405312) : vf_n64 x := by
  show x &&& 0x7fffffffffffffff ≤ 0x7ff0000000000000
  have c1 : (0x7fffffffffffffff : UInt64).toNat = 2 ^ 63 - 1 := by decide +kernel
  have c2 : (0x7ff0000000000000 : UInt64).toNat = 9218868437227405312 := by decide +kernel
  have p : (2 : Nat) ^ 63 = 9223372036854775808 := by decide +kernel
  rw [UInt64.le_iff_toNat_le, UInt64.toNat_and, c1, c2, Nat.and_two_pow_sub_one_eq_mod, p]
  exact h
theorem ff_lt (h1 : 1 ≤ E) (h2 : E < 1023) (hT : T < 4503599627370496) : FP.dcmp (UInt64.ofNat (E * 4503599627370496 + T)) 0x3ff0000000000000 = some .lt := by
  show FP.Core.cmp FP.Core.b64 _ _ = _
  rw [ff_un (by omega), ff_one]
  exact (fb_cmp64 h1 (by omega) hT (by decide) (by decide)).1 h2
theorem ff_ge (hT : T < 4503599627370496) : FP.dcmp (UInt64.ofNat (1023 * 4503599627370496 + T)) 0x3ff0000000000000 = some .eq ∨ FP.dcmp (UInt64.ofNat (1023 * 4503599627370496 + T)) 0x3ff0000000000000 = some .gt := by
  show FP.Core.cmp FP.Core.b64 _ _ = _ ∨ FP.Core.cmp FP.Core.b64 _ _ = _
  rw [ff_un (by omega), ff_one]
  exact (fb_cmp64 (by decide) (by decide) hT (by decide) (by decide)).2 (Nat.le_refl _)
theorem ff_gt0 (h1 : 1 ≤ E) (h2 : E ≤ 1023) (hT : T < 4503599627370496) : FP.dcmp (UInt64.ofNat (E * 4503599627370496 + T)) 0 = some .gt := by
  show FP.Core.cmp FP.Core.b64 _ _ = _
  rw [ff_un (by omega)]
  exact fb_pos64 h1 (by omega) hT
theorem ff_dbl (h1 : 1 ≤ E) (h2 : E < 1023) (hT : T < 4503599627370496) : FP.dmul (UInt64.ofNat (E * 4503599627370496 + T)) 0x4000000000000000 = UInt64.ofNat ((E + 1) * 4503599627370496 + T) := by
  show UInt64.ofNat (FP.Core.mul FP.Core.b64 _ _) = _
  rw [ff_un (by omega), ff_two, fb_mul64 h1 (by omega) hT (by decide) (by decide) (by omega) (by omega), show E + 1024 - 1023 = E + 1 by omega]
theorem ff_frac (hT : T < 4503599627370496) : FP.dmul (FP.dsub (UInt64.ofNat (1023 * 4503599627370496 + T)) 0x3ff0000000000000) 0x4330000000000000 = UInt64.ofNat (FP.Core.fromInt FP.Core.b64 (T : Int)) := by
  show UInt64.ofNat (FP.Core.mul FP.Core.b64 (UInt64.ofNat (FP.Core.sub FP.Core.b64 _ _)).toNat _) = _
  rw [ff_un (n := 1023 * 4503599627370496 + T) (by omega), ff_one, ff_un (Nat.lt_trans (fb_sublt64 hT) (by decide)), ff_big, fb_frac64 hT]
theorem ff_d2l (hT : T < 4503599627370496) : FP.d2l (UInt64.ofNat (FP.Core.fromInt FP.Core.b64 (T : Int))) = Int64.ofNat T := by
  show Int64.ofInt (FP.Core.toInt (-2 ^ 63) (2 ^ 63 - 1) (FP.Core.decode FP.Core.b64 _)) = _
  rw [ff_un (Nat.lt_trans (fb_intlt64 (by omega)) (by decide)), fb_toint64 (by omega) (by decide) (by have : (2 : Int) ^ 63 = 9223372036854775808 := by decide
                                                                                                      omega)]
  exact Int64.ofInt_eq_ofNat
theorem ff_shl : (List.range 1024).all (fun e => decide ((Int32.ofNat e).toInt64 <<< ((52 : Int32).toInt64 &&& 63) = Int64.ofNat (e * 4503599627370496))) = true := by decide +kernel
theorem ff_bits (h : E < 1024) : ((Int32.ofNat E).toInt64 <<< ((52 : Int32).toInt64 &&& 63)) + Int64.ofNat T = (UInt64.ofNat (E * 4503599627370496 + T)).toInt64 := by
  rw [of_decide_eq_true (List.all_eq_true.mp ff_shl E (List.mem_range.mpr h)), ← Int64.ofNat_add]
  rfl
theorem ff_326 {b : UInt64} (hb : (Op.cmpValue (FP.dcmp b b) .l).toInt = 0) (k : Q (some (.inl (0 : Int32))) m) : fl_Tq (pw_P L xs) 326 0 (fl_args (am_mxl (pw_P L xs) 326) [fl_d b]) [] m Q := by
  refine fl_Tq.dld (i := 0) (w := 3) (n := 1) (v := fl_d b) rfl rfl rfl (fun _ _ _ => rfl) rfl ?_
  refine fl_Tq.dld (i := 0) (w := 3) (n := 1) (v := fl_d b) rfl rfl rfl (fun _ _ _ => rfl) rfl ?_
  refine fl_Tq.bi (u := .inl (Op.cmpValue (FP.dcmp b b) .l)) rfl rfl rfl (fun _ _ _ => rfl) ?_
  refine fl_Tq.zt rfl (fl_bo rfl) (by rw [at_c1]; exact decide_eq_true hb) rfl ?_
  refine fl_Tq.stp rfl rfl (fl_bo rfl) rfl ?_
  exact fl_Tq.ret rfl rfl rfl k
theorem ff_327 {b : UInt64} (hb : (Op.cmpValue (FP.dcmp b b) .l).toInt = 0) (k : Q (some (fl_j b.toInt64)) m) : fl_Tq (pw_P L xs) 327 0 (fl_args (am_mxl (pw_P L xs) 327) [fl_d b]) [] m Q := by
  refine fl_Tq.dld (i := 0) (w := 3) (n := 1) (v := fl_d b) rfl rfl rfl (fun _ _ _ => rfl) rfl ?_
  refine fl_Tq.cal rfl rfl (fl_bo rfl) rfl ?_
  refine ff_326 hb ?_
  refine fl_Tq.zf rfl (fl_bo rfl) (by decide +kernel) rfl ?_
  refine fl_Tq.dld (i := 0) (w := 3) (n := 1) (v := fl_d b) rfl rfl rfl (fun _ _ _ => rfl) rfl ?_
  refine fl_Tq.gen (st' := [fl_j b.toInt64]) rfl rfl rfl (fun la hl => ⟨la, rfl, hl⟩) ?_
  exact fl_Tq.ret rfl rfl rfl k
theorem ff_self (h1 : 1 ≤ E) (h2 : E ≤ 1023) (hT : T < 4503599627370496) : (Op.cmpValue (FP.dcmp (UInt64.ofNat (E * 4503599627370496 + T)) (UInt64.ofNat (E * 4503599627370496 + T))) .l).toInt = 0 := by
  have e : FP.dcmp (UInt64.ofNat (E * 4503599627370496 + T)) (UInt64.ofNat (E * 4503599627370496 + T)) = some .eq := by
    show FP.Core.cmp FP.Core.b64 _ _ = _
    rw [ff_un (by omega)]
    unfold FP.Core.cmp
    rw [fb_dec64 h1 (by omega) hT]
    show some (compareOfLessAndEq _ _) = _
    unfold compareOfLessAndEq
    rw [if_neg (Int.lt_irrefl _), if_pos rfl]
  rw [e]
  decide +kernel
/-- bitsOfDouble, above nothing and at most one -/
theorem ff_181 (h1 : 959 ≤ E) (h2 : E ≤ 1023) (hT : T < 4503599627370496) (k : Q (some (fl_j (UInt64.ofNat (E * 4503599627370496 + T)).toInt64)) m) : fl_Tq (pw_P L xs) 181 0 (fl_args (am_mxl (pw_P L xs) 181) [fl_d (UInt64.ofNat (E * 4503599627370496 + T))]) [] m Q := by
  have nn : ∀ G : Nat, G ≤ 1023 → vf_n64 (UInt64.ofNat (G * 4503599627370496 + T)) := fun G hG => ff_nn (by rw [ff_un (by omega)]; omega)
  have tail : ∀ (e i : Int32), e.toInt = (E : Int) - 1023 → fl_Tq (pw_P L xs) 181 43 [some (fl_d (UInt64.ofNat (E * 4503599627370496 + T))), none, some (.inl e), some (fl_d (UInt64.ofNat (1023 * 4503599627370496 + T))), none, some (.inl i), none] [] m Q := by
    intro e i he
    refine fl_Tq.dld (i := 3) (w := 3) (n := 1) (v := fl_d (UInt64.ofNat (1023 * 4503599627370496 + T))) rfl rfl rfl (fun _ _ _ => rfl) rfl ?_
    refine fl_Tq.psh (n := 1) (v := fl_d 0x3ff0000000000000) rfl rfl rfl (fun _ _ _ => rfl) ?_
    have n1 : vf_n64 (FP.dsub (UInt64.ofNat (1023 * 4503599627370496 + T)) 0x3ff0000000000000) := fp_sub64 (nn 1023 (Nat.le_refl _)) (by decide) (by decide)
    refine fl_Tq.bi (u := fl_d (FP.dsub (UInt64.ofNat (1023 * 4503599627370496 + T)) 0x3ff0000000000000)) rfl rfl rfl (fl_dbin (fun _ _ _ => rfl) n1) ?_
    refine fl_Tq.psh (n := 3) (v := fl_d 0x4330000000000000) rfl rfl rfl (fun _ _ _ => rfl) ?_
    have n2 : vf_n64 (FP.dmul (FP.dsub (UInt64.ofNat (1023 * 4503599627370496 + T)) 0x3ff0000000000000) 0x4330000000000000) := fp_mul64 n1 (by decide) (by decide)
    refine fl_Tq.bi (u := fl_d (FP.dmul (FP.dsub (UInt64.ofNat (1023 * 4503599627370496 + T)) 0x3ff0000000000000) 0x4330000000000000)) rfl rfl rfl (fl_dbin (fun _ _ _ => rfl) n2) ?_
    rw [ff_frac hT]
    refine fl_Tq.un (w := fl_j (Int64.ofNat T)) rfl rfl rfl (fun _ _ _ => by rw [← ff_d2l hT]; rfl) ?_
    refine fl_Tq.stp rfl rfl (fl_bo rfl) rfl ?_
    refine fl_Tq.stp rfl rfl (fl_bo rfl) rfl ?_
    refine fl_Tq.stp rfl rfl (fl_bo rfl) rfl ?_
    refine fl_Tq.stp rfl rfl (fl_bo rfl) rfl ?_
    refine fl_Tq.stp rfl rfl (fl_bo rfl) rfl ?_
    refine fl_Tq.stp rfl rfl (fl_bo rfl) rfl ?_
    refine fl_Tq.stp rfl rfl (fl_bo rfl) rfl ?_
    refine fl_Tq.stp rfl rfl (fl_bo rfl) rfl ?_
    refine fl_Tq.stp rfl rfl (fl_bo rfl) rfl ?_
    refine fl_Tq.ret rfl rfl rfl ?_
    have e1 : (1023 : Int32) + e = Int32.ofNat E := by
      have c : (1023 : Int32).toInt = 1023 := by decide +kernel
      apply Int32.toInt.inj
      rw [at_add32 (by omega) (by omega), at_ofN (by omega), c]
      omega
    rw [← ff_bits (by omega), ← e1] at k
    exact k
  refine fl_Tq.dld (i := 0) (w := 3) (n := 1) (v := fl_d (UInt64.ofNat (E * 4503599627370496 + T))) rfl rfl rfl (fun _ _ _ => rfl) rfl ?_
  refine fl_Tq.psh (n := 1) (v := fl_d 0) rfl rfl rfl (fun _ _ _ => rfl) ?_
  refine fl_Tq.bi (u := .inl (Op.cmpValue (FP.dcmp (UInt64.ofNat (E * 4503599627370496 + T)) 0) .g)) rfl rfl rfl (fun _ _ _ => rfl) ?_
  rw [ff_gt0 (by omega) h2 hT]
  refine fl_Tq.zt rfl (fl_bo rfl) (by decide +kernel) rfl ?_
  refine fl_Tq.stp rfl rfl (fl_bo rfl) rfl ?_
  refine fl_Tq.stp rfl rfl (fl_bo rfl) rfl ?_
  refine fl_Tq.dld (i := 0) (w := 3) (n := 1) (v := fl_d (UInt64.ofNat (E * 4503599627370496 + T))) rfl rfl rfl (fun _ _ _ => rfl) rfl ?_
  refine fl_Tq.dso (i := 3) (w := 3) (n := 1) rfl rfl rfl (fun _ _ _ => rfl) rfl ?_
  refine fl_Tq.stp rfl rfl (fl_bo rfl) rfl ?_
  refine fl_Tq.stp rfl rfl (fl_bo rfl) rfl ?_
  have loop : ∀ (d n : Nat) (e : Int32), E + n + d = 1023 → e.toInt = -(n : Int) → fl_Tq (pw_P L xs) 181 15 [some (fl_d (UInt64.ofNat (E * 4503599627370496 + T))), none, some (.inl e), some (fl_d (UInt64.ofNat ((E + n) * 4503599627370496 + T))), none, some (.inl (Int32.ofNat n)), none] [] m Q := by
    intro d
    induction d with
    | zero =>
      intro n e hn he
      have hE : E + n = 1023 := by omega
      have en := at_ofN (k := n) (by omega)
      rw [hE]
      refine fl_Tq.stp rfl rfl (fl_bo rfl) rfl ?_
      refine fl_Tq.stp rfl rfl (fl_bo rfl) rfl ?_
      by_cases h64 : n < 64
      · refine fl_Tq.jf rfl (fl_bo rfl) ?_ rfl ?_
        · rw [at_c2, en]
          exact decide_eq_false (by show ¬ (0 ≤ (n : Int) - (64 : Int)); omega)
        refine fl_Tq.dld (i := 3) (w := 3) (n := 1) (v := fl_d (UInt64.ofNat (1023 * 4503599627370496 + T))) rfl rfl rfl (fun _ _ _ => rfl) rfl ?_
        refine fl_Tq.psh (n := 1) (v := fl_d 0x3ff0000000000000) rfl rfl rfl (fun _ _ _ => rfl) ?_
        refine fl_Tq.bi (u := .inl (Op.cmpValue (FP.dcmp (UInt64.ofNat (1023 * 4503599627370496 + T)) 0x3ff0000000000000) .g)) rfl rfl rfl (fun _ _ _ => rfl) ?_
        have ge : am_c1 .ge (Op.cmpValue (FP.dcmp (UInt64.ofNat (1023 * 4503599627370496 + T)) 0x3ff0000000000000) .g) = true := by
          rcases ff_ge hT with h | h <;> rw [h] <;> decide +kernel
        refine fl_Tq.zt rfl (fl_bo rfl) ge rfl ?_
        exact tail e _ (by omega)
      · refine fl_Tq.jt rfl (fl_bo rfl) ?_ rfl ?_
        · rw [at_c2, en]
          exact decide_eq_true (by show (0 ≤ (n : Int) - (64 : Int)); omega)
        exact tail e _ (by omega)
    | succ d ih =>
      intro n e hn he
      have en := at_ofN (k := n) (by omega)
      refine fl_Tq.stp rfl rfl (fl_bo rfl) rfl ?_
      refine fl_Tq.stp rfl rfl (fl_bo rfl) rfl ?_
      refine fl_Tq.jf rfl (fl_bo rfl) ?_ rfl ?_
      · rw [at_c2, en]
        exact decide_eq_false (by show ¬ (0 ≤ (n : Int) - (64 : Int)); omega)
      refine fl_Tq.dld (i := 3) (w := 3) (n := 1) (v := fl_d (UInt64.ofNat ((E + n) * 4503599627370496 + T))) rfl rfl rfl (fun _ _ _ => rfl) rfl ?_
      refine fl_Tq.psh (n := 1) (v := fl_d 0x3ff0000000000000) rfl rfl rfl (fun _ _ _ => rfl) ?_
      refine fl_Tq.bi (u := .inl (Op.cmpValue (FP.dcmp (UInt64.ofNat ((E + n) * 4503599627370496 + T)) 0x3ff0000000000000) .g)) rfl rfl rfl (fun _ _ _ => rfl) ?_
      rw [ff_lt (by omega) (by omega) hT]
      refine fl_Tq.zf rfl (fl_bo rfl) (by decide +kernel) rfl ?_
      refine fl_Tq.dld (i := 3) (w := 3) (n := 1) (v := fl_d (UInt64.ofNat ((E + n) * 4503599627370496 + T))) rfl rfl rfl (fun _ _ _ => rfl) rfl ?_
      refine fl_Tq.psh (n := 3) (v := fl_d 0x4000000000000000) rfl rfl rfl (fun _ _ _ => rfl) ?_
      have n2 : vf_n64 (FP.dmul (UInt64.ofNat ((E + n) * 4503599627370496 + T)) 0x4000000000000000) := fp_mul64 (nn (E + n) (by omega)) (by decide) (by decide)
      refine fl_Tq.bi (u := fl_d (FP.dmul (UInt64.ofNat ((E + n) * 4503599627370496 + T)) 0x4000000000000000)) rfl rfl rfl (fl_dbin (fun _ _ _ => rfl) n2) ?_
      rw [ff_dbl (by omega) (by omega) hT]
      refine fl_Tq.dso (i := 3) (w := 3) (n := 1) rfl rfl rfl (fun _ _ _ => rfl) rfl ?_
      refine fl_Tq.stp rfl rfl (fl_bo rfl) rfl ?_
      refine fl_Tq.stp rfl rfl (fl_bo rfl) rfl ?_
      refine fl_Tq.stp rfl rfl (fl_bo rfl) rfl ?_
      have c1 : (Int32.ofInt (-1)).toInt = -1 := by decide +kernel
      have := ih (n + 1) (e + Int32.ofInt (-1)) (by omega) (by rw [at_add32 (by omega) (by omega), c1, he]; omega)
      rw [← at_inc (by omega)] at this
      exact this
  have := loop (1023 - E) 0 (Int32.ofInt 0) (by omega) (by decide +kernel)
  rw [Nat.add_zero] at this
  exact this
/-- nothing -/
theorem ff_181z (k : Q (some (fl_j (0 : Int64))) m) : fl_Tq (pw_P L xs) 181 0 (fl_args (am_mxl (pw_P L xs) 181) [fl_d 0]) [] m Q := by
  refine fl_Tq.dld (i := 0) (w := 3) (n := 1) (v := fl_d 0) rfl rfl rfl (fun _ _ _ => rfl) rfl ?_
  refine fl_Tq.psh (n := 1) (v := fl_d 0) rfl rfl rfl (fun _ _ _ => rfl) ?_
  refine fl_Tq.bi (u := .inl (Op.cmpValue (FP.dcmp 0 0) .g)) rfl rfl rfl (fun _ _ _ => rfl) ?_
  refine fl_Tq.zf rfl (fl_bo rfl) (by decide +kernel) rfl ?_
  refine fl_Tq.stp rfl rfl (fl_bo rfl) rfl ?_
  exact fl_Tq.ret rfl rfl rfl k
/-- a quotient of whole numbers, at most one -/
theorem ff_quo {s a : Int64} {S A : Nat} (hs : s.toInt = (S : Int)) (ha : a.toInt = (A : Int)) (h0 : A ≠ 0) (hA : A < 1073741824) (hS : S ≤ A) : (S = 0 ∧ FP.ddiv (FP.l2d s) (FP.l2d a) = 0) ∨ ∃ E T, 959 ≤ E ∧ E ≤ 1023 ∧ T < 4503599627370496 ∧ FP.ddiv (FP.l2d s) (FP.l2d a) = UInt64.ofNat (E * 4503599627370496 + T) := by
  have es : FP.l2d s = UInt64.ofNat (FP.Core.fromInt FP.Core.b64 (S : Int)) := by
    show UInt64.ofNat (FP.Core.fromInt FP.Core.b64 s.toInt) = _
    rw [hs]
  have eA : FP.l2d a = UInt64.ofNat (FP.Core.fromInt FP.Core.b64 (A : Int)) := by
    show UInt64.ofNat (FP.Core.fromInt FP.Core.b64 a.toInt) = _
    rw [ha]
  have e0 : FP.ddiv (FP.l2d s) (FP.l2d a) = UInt64.ofNat (FP.Core.div FP.Core.b64 (FP.Core.fromInt FP.Core.b64 (S : Int)) (FP.Core.fromInt FP.Core.b64 (A : Int))) := by
    rw [es, eA]
    show UInt64.ofNat (FP.Core.div FP.Core.b64 _ _) = _
    rw [ff_un (Nat.lt_trans (fb_intlt64 (by omega)) (by decide)), ff_un (Nat.lt_trans (fb_intlt64 (by omega)) (by decide))]
  obtain ⟨d, d1, d2, d3, d4, d5⟩ := fb_int64 h0 (by omega)
  have lA : A.log2 < 30 := (Nat.log2_lt h0).mpr hA
  by_cases hS0 : S = 0
  · refine Or.inl ⟨hS0, ?_⟩
    rw [e0, hS0, d5]
    have z : FP.Core.fromInt FP.Core.b64 ((0 : Nat) : Int) = 0 := by decide +kernel
    rw [z]
    unfold FP.Core.div
    rw [fb_d064, fb_dec64 (by omega) (by omega) (by omega)]
    have hM : 4503599627370496 + (A * 2 ^ d - 4503599627370496) ≠ 0 := by omega
    generalize 4503599627370496 + (A * 2 ^ d - 4503599627370496) = M at hM
    generalize (-1074 : Int) + (((1075 - d + 1023 - 1 : Nat) : Int) - 1) = q
    unfold FP.Core.quotient
    dsimp only
    rw [if_neg hM]
    unfold FP.Core.roundRatio
    rw [if_pos rfl]
    decide +kernel
  · refine Or.inr ?_
    obtain ⟨s', s1, s2, s3, s4, s5⟩ := fb_int64 hS0 (by omega)
    rw [e0, s5, d5]
    have le : S.log2 ≤ A.log2 := by
      apply Classical.byContradiction
      intro h
      have a1 := Nat.log2_self_le hS0
      have a2 : A < 2 ^ (A.log2 + 1) := Nat.lt_log2_self
      have a3 : 2 ^ (A.log2 + 1) ≤ 2 ^ S.log2 := Nat.pow_le_pow_right (by decide) (by omega)
      omega
    obtain ⟨G, U, u1, u2, u3, u4, u5, u6⟩ := fb_quo64 (E := 1075 - s') (T := S * 2 ^ s' - 4503599627370496) (F := 1075 - d) (d := A * 2 ^ d - 4503599627370496) (by omega) (by omega) (by omega) (by omega) (by omega) (by omega) (by omega) (by omega)
    by_cases e : s' = d
    · subst e
      have ml : S * 2 ^ s' ≤ A * 2 ^ s' := Nat.mul_le_mul_right _ hS
      by_cases lt : S * 2 ^ s' < A * 2 ^ s'
      · have := u6 (by omega)
        exact ⟨G, U, by omega, by omega, u1, by rw [u2]⟩
      · by_cases hg : G = 1024
        · have := u5 (by omega)
          -- a whole one: not above it
          exfalso
          have eq : S = A := by
            have := Nat.le_of_mul_le_mul_right (a := A) (b := S) (c := 2 ^ s') (by omega) (Nat.two_pow_pos s')
            omega
          rw [eq] at u2
          have one := fb_one64 (E := 1075 - s') (T := A * 2 ^ s' - 4503599627370496) (by omega) (by omega) (by omega)
          rw [one] at u2
          omega
        · exact ⟨G, U, by omega, by omega, u1, by rw [u2]⟩
    · exact ⟨G, U, by omega, by omega, u1, by rw [u2]⟩
end FFD

end
noncomputable def c0_goalPart_v (f : t2_F) : Int32 := if 0 < (lg_cmp (c0_allFull_v f) (0 : Int64)).toInt then (((c0_allCharge_v f) * (1000 : Int64)) / (c0_allFull_v f)).toInt32 else (-1 : Int32)
theorem c0_goalPart_q {L : Nat} {xs : Nat → Int32} {f : t2_F} {l : t2_L} {Q : Option fl_V → fl_M → Prop}  (hc : 0 ≤ (f 1 5).toInt ∧ (f 1 5).toInt ≤ 16) (k : Q (some (.inl (c0_goalPart_v f))) (f, l)) : fl_Tq (pw_P L xs) 44 0 (fl_args (am_mxl (pw_P L xs) 44) [.inr (.inr (.inl (1, 1)))]) [] (f, l) Q := by
  refine fl_Tq.stp (pc' := 1) (lv' := [some (.inr (.inr (.inl (1, 1)))), none, none]) (st' := [.inr (.inr (.inl (1, 1)))]) (m' := (f, l)) rfl rfl (fl_bo rfl) rfl ?_
  refine fl_Tq.cal rfl rfl (fl_bo rfl) rfl ?_
  refine c0_allFull_q hc ?_
  show fl_Tq _ 44 4 [some (.inr (.inr (.inl (1, 1)))), none, none] [.inr (.inl (c0_allFull_v f))] (f, l) _
  refine fl_Tq.stp (pc' := 5) (lv' := [some (.inr (.inr (.inl (1, 1)))), some (.inr (.inl (c0_allFull_v f))), none]) (st' := []) (m' := (f, l)) rfl rfl (fl_bo rfl) rfl ?_
  refine fl_Tq.stp (pc' := 6) (lv' := [some (.inr (.inr (.inl (1, 1)))), some (.inr (.inl (c0_allFull_v f))), none]) (st' := [.inr (.inl (c0_allFull_v f))]) (m' := (f, l)) rfl rfl (fl_bo rfl) rfl ?_
  refine fl_Tq.stp (pc' := 7) (lv' := [some (.inr (.inr (.inl (1, 1)))), some (.inr (.inl (c0_allFull_v f))), none]) (st' := [.inr (.inl (0 : Int64)), .inr (.inl (c0_allFull_v f))]) (m' := (f, l)) rfl rfl (fl_bo rfl) rfl ?_
  refine fl_Tq.stp (pc' := 8) (lv' := [some (.inr (.inr (.inl (1, 1)))), some (.inr (.inl (c0_allFull_v f))), none]) (st' := [.inl (lg_cmp (c0_allFull_v f) (0 : Int64))]) (m' := (f, l)) rfl rfl (fl_bo rfl) rfl ?_
  have hj130 : fl_Tq (pw_P L xs) 44 26 [some (.inr (.inr (.inl (1, 1)))), some (.inr (.inl (c0_allFull_v f))), none] [.inl (if 0 < (lg_cmp (c0_allFull_v f) (0 : Int64)).toInt then (((c0_allCharge_v f) * (1000 : Int64)) / (c0_allFull_v f)).toInt32 else (-1 : Int32))] (f, l) Q → fl_Tq (pw_P L xs) 44 8 [some (.inr (.inr (.inl (1, 1)))), some (.inr (.inl (c0_allFull_v f))), none] [.inl (lg_cmp (c0_allFull_v f) (0 : Int64))] (f, l) Q := by
    intro hJ
    by_cases h1 : 0 < (lg_cmp (c0_allFull_v f) (0 : Int64)).toInt
    · refine fl_Tq.zt rfl (fl_bo rfl) (c1_gt_t h1) rfl ?_
      refine fl_Tq.stp (pc' := 16) (lv' := [some (.inr (.inr (.inl (1, 1)))), some (.inr (.inl (c0_allFull_v f))), none]) (st' := [.inr (.inr (.inl (1, 1)))]) (m' := (f, l)) rfl rfl (fl_bo rfl) rfl ?_
      refine fl_Tq.cal rfl rfl (fl_bo rfl) rfl ?_
      refine c0_allCharge_q hc ?_
      show fl_Tq _ 44 19 [some (.inr (.inr (.inl (1, 1)))), some (.inr (.inl (c0_allFull_v f))), none] [.inr (.inl (c0_allCharge_v f))] (f, l) _
      refine fl_Tq.stp (pc' := 22) (lv' := [some (.inr (.inr (.inl (1, 1)))), some (.inr (.inl (c0_allFull_v f))), none]) (st' := [.inr (.inl (1000 : Int64)), .inr (.inl (c0_allCharge_v f))]) (m' := (f, l)) rfl rfl (fl_bo rfl) rfl ?_
      refine fl_Tq.stp (pc' := 23) (lv' := [some (.inr (.inr (.inl (1, 1)))), some (.inr (.inl (c0_allFull_v f))), none]) (st' := [.inr (.inl ((c0_allCharge_v f) * (1000 : Int64)))]) (m' := (f, l)) rfl rfl (fl_bo rfl) rfl ?_
      refine fl_Tq.stp (pc' := 24) (lv' := [some (.inr (.inr (.inl (1, 1)))), some (.inr (.inl (c0_allFull_v f))), none]) (st' := [.inr (.inl (c0_allFull_v f)), .inr (.inl ((c0_allCharge_v f) * (1000 : Int64)))]) (m' := (f, l)) rfl rfl (fl_bo rfl) rfl ?_
      refine fl_Tq.dvJ rfl (fl_bo rfl) (t2_nzl h1) ?_
      refine fl_Tq.stp (pc' := 26) (lv' := [some (.inr (.inr (.inl (1, 1)))), some (.inr (.inl (c0_allFull_v f))), none]) (st' := [.inl ((((c0_allCharge_v f) * (1000 : Int64)) / (c0_allFull_v f)).toInt32)]) (m' := (f, l)) rfl rfl (fl_bo rfl) rfl ?_
      have e0 : (if 0 < (lg_cmp (c0_allFull_v f) (0 : Int64)).toInt then (((c0_allCharge_v f) * (1000 : Int64)) / (c0_allFull_v f)).toInt32 else (-1 : Int32)) = (((c0_allCharge_v f) * (1000 : Int64)) / (c0_allFull_v f)).toInt32 := by simp only [if_pos h1]
      rw [e0] at hJ
      exact hJ
    · refine fl_Tq.zf rfl (fl_bo rfl) (c1_gt_f h1) rfl ?_
      refine fl_Tq.cI (c := (-1 : Int32)) rfl (by decide +kernel) (fl_bo rfl) ?_
      refine fl_Tq.stp (pc' := 26) (lv' := [some (.inr (.inr (.inl (1, 1)))), some (.inr (.inl (c0_allFull_v f))), none]) (st' := [.inl (-1 : Int32)]) (m' := (f, l)) rfl rfl (fl_bo rfl) rfl ?_
      have e0 : (if 0 < (lg_cmp (c0_allFull_v f) (0 : Int64)).toInt then (((c0_allCharge_v f) * (1000 : Int64)) / (c0_allFull_v f)).toInt32 else (-1 : Int32)) = (-1 : Int32) := by simp only [if_neg h1]
      rw [e0] at hJ
      exact hJ
  refine hj130 ?_
  show fl_Tq _ 44 26 [some (.inr (.inr (.inl (1, 1)))), some (.inr (.inl (c0_allFull_v f))), none] [.inl (if 0 < (lg_cmp (c0_allFull_v f) (0 : Int64)).toInt then (((c0_allCharge_v f) * (1000 : Int64)) / (c0_allFull_v f)).toInt32 else (-1 : Int32))] (f, l) _
  exact fl_Tq.ret rfl rfl rfl k
noncomputable def y_goalOf_a7 (f : t2_F) : Nat → Int64 × Int64
  | 0 => ((0 : Int64), (0 : Int64))
  | k7 + 1 => (((y_goalOf_a7 f k7).1) + ((f 280 (444 + 61 * k7 + 1)).toInt64), ((y_goalOf_a7 f k7).2) + (((3600 : Int32) * (f 280 (444 + 61 * k7 + 0))).toInt64))
noncomputable def y_goalOf_v (f : t2_F) : Int32 := (((1000 : Int64) * ((y_goalOf_a7 f ((f 280 2).toInt.toNat)).1)) / ((y_goalOf_a7 f ((f 280 2).toInt.toNat)).2)).toInt32
theorem y_goalOf_q {L : Nat} {xs : Nat → Int32} {f : t2_F} {l : t2_L} {Q : Option fl_V → fl_M → Prop}  (hn : 0 ≤ (f 280 2).toInt ∧ (f 280 2).toInt ≤ 16) (hx : (y_goalOf_a7 f ((f 280 2).toInt.toNat)).2 ≠ 0) (k : Q (some (.inl (y_goalOf_v f))) (f, l)) : fl_Tq (pw_P L xs) 299 0 (fl_args (am_mxl (pw_P L xs) 299) [.inr (.inr (.inl (76, 277)))]) [] (f, l) Q := by
  refine fl_Tq.stp (pc' := 1) (lv' := [some (.inr (.inr (.inl (76, 277)))), none, none, none, none, none]) (st' := [.inr (.inl (0 : Int64))]) (m' := (f, l)) rfl rfl (fl_bo rfl) rfl ?_
  refine fl_Tq.stp (pc' := 2) (lv' := [some (.inr (.inr (.inl (76, 277)))), some (.inr (.inl (0 : Int64))), none, none, none, none]) (st' := []) (m' := (f, l)) rfl rfl (fl_bo rfl) rfl ?_
  refine fl_Tq.stp (pc' := 3) (lv' := [some (.inr (.inr (.inl (76, 277)))), some (.inr (.inl (0 : Int64))), none, none, none, none]) (st' := [.inr (.inl (0 : Int64))]) (m' := (f, l)) rfl rfl (fl_bo rfl) rfl ?_
  refine fl_Tq.stp (pc' := 4) (lv' := [some (.inr (.inr (.inl (76, 277)))), some (.inr (.inl (0 : Int64))), none, some (.inr (.inl (0 : Int64))), none, none]) (st' := []) (m' := (f, l)) rfl rfl (fl_bo rfl) rfl ?_
  refine fl_Tq.cI (c := (0 : Int32)) rfl (by decide +kernel) (fl_bo rfl) ?_
  refine fl_Tq.stp (pc' := 7) (lv' := [some (.inr (.inr (.inl (76, 277)))), some (.inr (.inl (0 : Int64))), none, some (.inr (.inl (0 : Int64))), none, some (.inl (0 : Int32))]) (st' := []) (m' := (f, l)) rfl rfl (fl_bo rfl) rfl ?_
  have hs7 : ∀ k7 : Nat, k7 < (f 280 2).toInt.toNat → fl_Tq (pw_P L xs) 299 7 [some (.inr (.inr (.inl (76, 277)))), some (.inr (.inl ((y_goalOf_a7 f (k7 + 1)).1))), none, some (.inr (.inl ((y_goalOf_a7 f (k7 + 1)).2))), none, some (.inl (Int32.ofNat (k7 + 1)))] [] (f, l) Q → fl_Tq (pw_P L xs) 299 7 [some (.inr (.inr (.inl (76, 277)))), some (.inr (.inl ((y_goalOf_a7 f k7).1))), none, some (.inr (.inl ((y_goalOf_a7 f k7).2))), none, some (.inl (Int32.ofNat k7))] [] (f, l) Q := by
    intro k7 hk7 hS
    refine fl_Tq.stp (pc' := 9) (lv' := [some (.inr (.inr (.inl (76, 277)))), some (.inr (.inl ((y_goalOf_a7 f k7).1))), none, some (.inr (.inl ((y_goalOf_a7 f k7).2))), none, some (.inl (Int32.ofNat k7))]) (st' := [.inl (Int32.ofNat k7)]) (m' := (f, l)) rfl rfl (fl_bo rfl) rfl ?_
    refine fl_Tq.stp (pc' := 10) (lv' := [some (.inr (.inr (.inl (76, 277)))), some (.inr (.inl ((y_goalOf_a7 f k7).1))), none, some (.inr (.inl ((y_goalOf_a7 f k7).2))), none, some (.inl (Int32.ofNat k7))]) (st' := [.inr (.inr (.inl (76, 277))), .inl (Int32.ofNat k7)]) (m' := (f, l)) rfl rfl (fl_bo rfl) rfl ?_
    refine fl_Tq.stp (pc' := 13) (lv' := [some (.inr (.inr (.inl (76, 277)))), some (.inr (.inl ((y_goalOf_a7 f k7).1))), none, some (.inr (.inl ((y_goalOf_a7 f k7).2))), none, some (.inl (Int32.ofNat k7))]) (st' := [.inr (.inr (.inl (79, 280))), .inl (Int32.ofNat k7)]) (m' := (f, l)) rfl rfl (fl_bo rfl) rfl ?_
    refine fl_Tq.cI (c := (2 : Int32)) rfl (by decide +kernel) (fl_bo rfl) ?_
    refine fl_Tq.ldV (p := 280) (τ := 79) (n := 29780) (z := (0, 0, 0)) (k := 2) (v := f 280 2) rfl (fl_bo rfl) rfl (by decide +kernel) (by decide) rfl ?_
    refine fl_Tq.jf rfl (fl_bo rfl) (c2_ge_f (t2_lk hk7 (t2_nn hn.1))) rfl ?_
    refine fl_Tq.stp (pc' := 19) (lv' := [some (.inr (.inr (.inl (76, 277)))), some (.inr (.inl ((y_goalOf_a7 f k7).1))), none, some (.inr (.inl ((y_goalOf_a7 f k7).2))), none, some (.inl (Int32.ofNat k7))]) (st' := [.inr (.inl ((y_goalOf_a7 f k7).1))]) (m' := (f, l)) rfl rfl (fl_bo rfl) rfl ?_
    refine fl_Tq.stp (pc' := 20) (lv' := [some (.inr (.inr (.inl (76, 277)))), some (.inr (.inl ((y_goalOf_a7 f k7).1))), none, some (.inr (.inl ((y_goalOf_a7 f k7).2))), none, some (.inl (Int32.ofNat k7))]) (st' := [.inr (.inr (.inl (76, 277))), .inr (.inl ((y_goalOf_a7 f k7).1))]) (m' := (f, l)) rfl rfl (fl_bo rfl) rfl ?_
    refine fl_Tq.stp (pc' := 22) (lv' := [some (.inr (.inr (.inl (76, 277)))), some (.inr (.inl ((y_goalOf_a7 f k7).1))), none, some (.inr (.inl ((y_goalOf_a7 f k7).2))), none, some (.inl (Int32.ofNat k7))]) (st' := [.inl (Int32.ofNat k7), .inr (.inr (.inl (76, 277))), .inr (.inl ((y_goalOf_a7 f k7).1))]) (m' := (f, l)) rfl rfl (fl_bo rfl) rfl ?_
    refine fl_Tq.cI (c := (1 : Int32)) rfl (by decide +kernel) (fl_bo rfl) ?_
    refine fl_Tq.cal rfl rfl (fl_bo rfl) rfl ?_
    refine t2_get (C := k7) (W := 1) (v := f 280 (444 + 61 * k7 + 1)) (at_ofN (by omega)) (by decide +kernel) (by omega) (by decide) rfl ?_
    show fl_Tq _ 299 26 [some (.inr (.inr (.inl (76, 277)))), some (.inr (.inl ((y_goalOf_a7 f k7).1))), none, some (.inr (.inl ((y_goalOf_a7 f k7).2))), none, some (.inl (Int32.ofNat k7))] [.inl (f 280 (444 + 61 * k7 + 1)), .inr (.inl ((y_goalOf_a7 f k7).1))] (f, l) _
    refine fl_Tq.stp (pc' := 27) (lv' := [some (.inr (.inr (.inl (76, 277)))), some (.inr (.inl ((y_goalOf_a7 f k7).1))), none, some (.inr (.inl ((y_goalOf_a7 f k7).2))), none, some (.inl (Int32.ofNat k7))]) (st' := [.inr (.inl ((f 280 (444 + 61 * k7 + 1)).toInt64)), .inr (.inl ((y_goalOf_a7 f k7).1))]) (m' := (f, l)) rfl rfl (fl_bo rfl) rfl ?_
    refine fl_Tq.stp (pc' := 28) (lv' := [some (.inr (.inr (.inl (76, 277)))), some (.inr (.inl ((y_goalOf_a7 f k7).1))), none, some (.inr (.inl ((y_goalOf_a7 f k7).2))), none, some (.inl (Int32.ofNat k7))]) (st' := [.inr (.inl (((y_goalOf_a7 f k7).1) + ((f 280 (444 + 61 * k7 + 1)).toInt64)))]) (m' := (f, l)) rfl rfl (fl_bo rfl) rfl ?_
    refine fl_Tq.stp (pc' := 29) (lv' := [some (.inr (.inr (.inl (76, 277)))), some (.inr (.inl (((y_goalOf_a7 f k7).1) + ((f 280 (444 + 61 * k7 + 1)).toInt64)))), none, some (.inr (.inl ((y_goalOf_a7 f k7).2))), none, some (.inl (Int32.ofNat k7))]) (st' := []) (m' := (f, l)) rfl rfl (fl_bo rfl) rfl ?_
    refine fl_Tq.stp (pc' := 30) (lv' := [some (.inr (.inr (.inl (76, 277)))), some (.inr (.inl (((y_goalOf_a7 f k7).1) + ((f 280 (444 + 61 * k7 + 1)).toInt64)))), none, some (.inr (.inl ((y_goalOf_a7 f k7).2))), none, some (.inl (Int32.ofNat k7))]) (st' := [.inr (.inl ((y_goalOf_a7 f k7).2))]) (m' := (f, l)) rfl rfl (fl_bo rfl) rfl ?_
    refine fl_Tq.stp (pc' := 31) (lv' := [some (.inr (.inr (.inl (76, 277)))), some (.inr (.inl (((y_goalOf_a7 f k7).1) + ((f 280 (444 + 61 * k7 + 1)).toInt64)))), none, some (.inr (.inl ((y_goalOf_a7 f k7).2))), none, some (.inl (Int32.ofNat k7))]) (st' := [.inr (.inr (.inl (76, 277))), .inr (.inl ((y_goalOf_a7 f k7).2))]) (m' := (f, l)) rfl rfl (fl_bo rfl) rfl ?_
    refine fl_Tq.stp (pc' := 33) (lv' := [some (.inr (.inr (.inl (76, 277)))), some (.inr (.inl (((y_goalOf_a7 f k7).1) + ((f 280 (444 + 61 * k7 + 1)).toInt64)))), none, some (.inr (.inl ((y_goalOf_a7 f k7).2))), none, some (.inl (Int32.ofNat k7))]) (st' := [.inl (Int32.ofNat k7), .inr (.inr (.inl (76, 277))), .inr (.inl ((y_goalOf_a7 f k7).2))]) (m' := (f, l)) rfl rfl (fl_bo rfl) rfl ?_
    refine fl_Tq.cal rfl rfl (fl_bo rfl) rfl ?_
    refine fl_Tq.cS (c := (3600 : Int32)) rfl (by decide +kernel) (fl_bo rfl) ?_
    refine fl_Tq.stp (pc' := 4) (lv' := [some (.inr (.inr (.inl (76, 277)))), some (.inl (Int32.ofNat k7))]) (st' := [.inr (.inr (.inl (76, 277))), .inl (3600 : Int32)]) (m' := (f, l)) rfl rfl (fl_bo rfl) rfl ?_
    refine fl_Tq.stp (pc' := 5) (lv' := [some (.inr (.inr (.inl (76, 277)))), some (.inl (Int32.ofNat k7))]) (st' := [.inl (Int32.ofNat k7), .inr (.inr (.inl (76, 277))), .inl (3600 : Int32)]) (m' := (f, l)) rfl rfl (fl_bo rfl) rfl ?_
    refine fl_Tq.cI (c := (0 : Int32)) rfl (by decide +kernel) (fl_bo rfl) ?_
    refine fl_Tq.cal rfl rfl (fl_bo rfl) rfl ?_
    refine t2_get (C := k7) (W := 0) (v := f 280 (444 + 61 * k7 + 0)) (at_ofN (by omega)) (by decide +kernel) (by omega) (by decide) rfl ?_
    show fl_Tq _ 195 9 [some (.inr (.inr (.inl (76, 277)))), some (.inl (Int32.ofNat k7))] [.inl (f 280 (444 + 61 * k7 + 0)), .inl (3600 : Int32)] (f, l) _
    refine fl_Tq.stp (pc' := 10) (lv' := [some (.inr (.inr (.inl (76, 277)))), some (.inl (Int32.ofNat k7))]) (st' := [.inl ((3600 : Int32) * (f 280 (444 + 61 * k7 + 0)))]) (m' := (f, l)) rfl rfl (fl_bo rfl) rfl ?_
    refine fl_Tq.ret rfl rfl rfl ?_
    show fl_Tq _ 299 36 [some (.inr (.inr (.inl (76, 277)))), some (.inr (.inl (((y_goalOf_a7 f k7).1) + ((f 280 (444 + 61 * k7 + 1)).toInt64)))), none, some (.inr (.inl ((y_goalOf_a7 f k7).2))), none, some (.inl (Int32.ofNat k7))] [.inl ((3600 : Int32) * (f 280 (444 + 61 * k7 + 0))), .inr (.inl ((y_goalOf_a7 f k7).2))] (f, l) _
    refine fl_Tq.stp (pc' := 37) (lv' := [some (.inr (.inr (.inl (76, 277)))), some (.inr (.inl (((y_goalOf_a7 f k7).1) + ((f 280 (444 + 61 * k7 + 1)).toInt64)))), none, some (.inr (.inl ((y_goalOf_a7 f k7).2))), none, some (.inl (Int32.ofNat k7))]) (st' := [.inr (.inl (((3600 : Int32) * (f 280 (444 + 61 * k7 + 0))).toInt64)), .inr (.inl ((y_goalOf_a7 f k7).2))]) (m' := (f, l)) rfl rfl (fl_bo rfl) rfl ?_
    refine fl_Tq.stp (pc' := 38) (lv' := [some (.inr (.inr (.inl (76, 277)))), some (.inr (.inl (((y_goalOf_a7 f k7).1) + ((f 280 (444 + 61 * k7 + 1)).toInt64)))), none, some (.inr (.inl ((y_goalOf_a7 f k7).2))), none, some (.inl (Int32.ofNat k7))]) (st' := [.inr (.inl (((y_goalOf_a7 f k7).2) + (((3600 : Int32) * (f 280 (444 + 61 * k7 + 0))).toInt64)))]) (m' := (f, l)) rfl rfl (fl_bo rfl) rfl ?_
    refine fl_Tq.stp (pc' := 39) (lv' := [some (.inr (.inr (.inl (76, 277)))), some (.inr (.inl (((y_goalOf_a7 f k7).1) + ((f 280 (444 + 61 * k7 + 1)).toInt64)))), none, some (.inr (.inl (((y_goalOf_a7 f k7).2) + (((3600 : Int32) * (f 280 (444 + 61 * k7 + 0))).toInt64)))), none, some (.inl (Int32.ofNat k7))]) (st' := []) (m' := (f, l)) rfl rfl (fl_bo rfl) rfl ?_
    refine fl_Tq.stp (pc' := 42) (lv' := [some (.inr (.inr (.inl (76, 277)))), some (.inr (.inl (((y_goalOf_a7 f k7).1) + ((f 280 (444 + 61 * k7 + 1)).toInt64)))), none, some (.inr (.inl (((y_goalOf_a7 f k7).2) + (((3600 : Int32) * (f 280 (444 + 61 * k7 + 0))).toInt64)))), none, some (.inl ((Int32.ofNat k7) + (1 : Int32)))]) (st' := []) (m' := (f, l)) rfl rfl (fl_bo rfl) rfl ?_
    refine fl_Tq.stp (pc' := 7) (lv' := [some (.inr (.inr (.inl (76, 277)))), some (.inr (.inl (((y_goalOf_a7 f k7).1) + ((f 280 (444 + 61 * k7 + 1)).toInt64)))), none, some (.inr (.inl (((y_goalOf_a7 f k7).2) + (((3600 : Int32) * (f 280 (444 + 61 * k7 + 0))).toInt64)))), none, some (.inl ((Int32.ofNat k7) + (1 : Int32)))]) (st' := []) (m' := (f, l)) rfl rfl (fl_bo rfl) rfl ?_
    have ea : y_goalOf_a7 f (k7 + 1) = (((y_goalOf_a7 f k7).1) + ((f 280 (444 + 61 * k7 + 1)).toInt64), ((y_goalOf_a7 f k7).2) + (((3600 : Int32) * (f 280 (444 + 61 * k7 + 0))).toInt64)) := by
      show ((((y_goalOf_a7 f k7).1) + ((f 280 (444 + 61 * k7 + 1)).toInt64), ((y_goalOf_a7 f k7).2) + (((3600 : Int32) * (f 280 (444 + 61 * k7 + 0))).toInt64))) = _
      rfl
    rw [ea, ← t2_k1] at hS
    exact hS
  refine t2_for (S := fun k7 => fl_Tq (pw_P L xs) 299 7 [some (.inr (.inr (.inl (76, 277)))), some (.inr (.inl ((y_goalOf_a7 f k7).1))), none, some (.inr (.inl ((y_goalOf_a7 f k7).2))), none, some (.inl (Int32.ofNat k7))] [] (f, l) Q) hs7 ?_
  show fl_Tq (pw_P L xs) 299 7 [some (.inr (.inr (.inl (76, 277)))), some (.inr (.inl ((y_goalOf_a7 f ((f 280 2).toInt.toNat)).1))), none, some (.inr (.inl ((y_goalOf_a7 f ((f 280 2).toInt.toNat)).2))), none, some (.inl (Int32.ofNat ((f 280 2).toInt.toNat)))] [] (f, l) _
  refine fl_Tq.stp (pc' := 9) (lv' := [some (.inr (.inr (.inl (76, 277)))), some (.inr (.inl ((y_goalOf_a7 f ((f 280 2).toInt.toNat)).1))), none, some (.inr (.inl ((y_goalOf_a7 f ((f 280 2).toInt.toNat)).2))), none, some (.inl (Int32.ofNat ((f 280 2).toInt.toNat)))]) (st' := [.inl (Int32.ofNat ((f 280 2).toInt.toNat))]) (m' := (f, l)) rfl rfl (fl_bo rfl) rfl ?_
  refine fl_Tq.stp (pc' := 10) (lv' := [some (.inr (.inr (.inl (76, 277)))), some (.inr (.inl ((y_goalOf_a7 f ((f 280 2).toInt.toNat)).1))), none, some (.inr (.inl ((y_goalOf_a7 f ((f 280 2).toInt.toNat)).2))), none, some (.inl (Int32.ofNat ((f 280 2).toInt.toNat)))]) (st' := [.inr (.inr (.inl (76, 277))), .inl (Int32.ofNat ((f 280 2).toInt.toNat))]) (m' := (f, l)) rfl rfl (fl_bo rfl) rfl ?_
  refine fl_Tq.stp (pc' := 13) (lv' := [some (.inr (.inr (.inl (76, 277)))), some (.inr (.inl ((y_goalOf_a7 f ((f 280 2).toInt.toNat)).1))), none, some (.inr (.inl ((y_goalOf_a7 f ((f 280 2).toInt.toNat)).2))), none, some (.inl (Int32.ofNat ((f 280 2).toInt.toNat)))]) (st' := [.inr (.inr (.inl (79, 280))), .inl (Int32.ofNat ((f 280 2).toInt.toNat))]) (m' := (f, l)) rfl rfl (fl_bo rfl) rfl ?_
  refine fl_Tq.cI (c := (2 : Int32)) rfl (by decide +kernel) (fl_bo rfl) ?_
  refine fl_Tq.ldV (p := 280) (τ := 79) (n := 29780) (z := (0, 0, 0)) (k := 2) (v := f 280 2) rfl (fl_bo rfl) rfl (by decide +kernel) (by decide) rfl ?_
  refine fl_Tq.jt rfl (fl_bo rfl) (c2_ge_t (t2_ln (t2_nn hn.1))) rfl ?_
  refine fl_Tq.stp (pc' := 48) (lv' := [some (.inr (.inr (.inl (76, 277)))), some (.inr (.inl ((y_goalOf_a7 f ((f 280 2).toInt.toNat)).1))), none, some (.inr (.inl ((y_goalOf_a7 f ((f 280 2).toInt.toNat)).2))), none, some (.inl (Int32.ofNat ((f 280 2).toInt.toNat)))]) (st' := [.inr (.inl (1000 : Int64))]) (m' := (f, l)) rfl rfl (fl_bo rfl) rfl ?_
  refine fl_Tq.stp (pc' := 49) (lv' := [some (.inr (.inr (.inl (76, 277)))), some (.inr (.inl ((y_goalOf_a7 f ((f 280 2).toInt.toNat)).1))), none, some (.inr (.inl ((y_goalOf_a7 f ((f 280 2).toInt.toNat)).2))), none, some (.inl (Int32.ofNat ((f 280 2).toInt.toNat)))]) (st' := [.inr (.inl ((y_goalOf_a7 f ((f 280 2).toInt.toNat)).1)), .inr (.inl (1000 : Int64))]) (m' := (f, l)) rfl rfl (fl_bo rfl) rfl ?_
  refine fl_Tq.stp (pc' := 50) (lv' := [some (.inr (.inr (.inl (76, 277)))), some (.inr (.inl ((y_goalOf_a7 f ((f 280 2).toInt.toNat)).1))), none, some (.inr (.inl ((y_goalOf_a7 f ((f 280 2).toInt.toNat)).2))), none, some (.inl (Int32.ofNat ((f 280 2).toInt.toNat)))]) (st' := [.inr (.inl ((1000 : Int64) * ((y_goalOf_a7 f ((f 280 2).toInt.toNat)).1)))]) (m' := (f, l)) rfl rfl (fl_bo rfl) rfl ?_
  refine fl_Tq.stp (pc' := 51) (lv' := [some (.inr (.inr (.inl (76, 277)))), some (.inr (.inl ((y_goalOf_a7 f ((f 280 2).toInt.toNat)).1))), none, some (.inr (.inl ((y_goalOf_a7 f ((f 280 2).toInt.toNat)).2))), none, some (.inl (Int32.ofNat ((f 280 2).toInt.toNat)))]) (st' := [.inr (.inl ((y_goalOf_a7 f ((f 280 2).toInt.toNat)).2)), .inr (.inl ((1000 : Int64) * ((y_goalOf_a7 f ((f 280 2).toInt.toNat)).1)))]) (m' := (f, l)) rfl rfl (fl_bo rfl) rfl ?_
  refine fl_Tq.dvJ rfl (fl_bo rfl) hx ?_
  refine fl_Tq.stp (pc' := 53) (lv' := [some (.inr (.inr (.inl (76, 277)))), some (.inr (.inl ((y_goalOf_a7 f ((f 280 2).toInt.toNat)).1))), none, some (.inr (.inl ((y_goalOf_a7 f ((f 280 2).toInt.toNat)).2))), none, some (.inl (Int32.ofNat ((f 280 2).toInt.toNat)))]) (st' := [.inl ((((1000 : Int64) * ((y_goalOf_a7 f ((f 280 2).toInt.toNat)).1)) / ((y_goalOf_a7 f ((f 280 2).toInt.toNat)).2)).toInt32)]) (m' := (f, l)) rfl rfl (fl_bo rfl) rfl ?_
  exact fl_Tq.ret rfl rfl rfl k
theorem y_fu_A {L : Nat} {xs : Nat → Int32} {f : t2_F} {l : t2_L} {Q : Option fl_V → fl_M → Prop}   (k : fl_Tq (pw_P L xs) 292 7 [some (.inr (.inr (.inl (76, 277)))), some (.inr (.inl (0 : Int64))), none, some (.inr (.inl (0 : Int64))), none, some (.inl (0 : Int32))] [] (f, l) Q) : fl_Tq (pw_P L xs) 292 0 [some (.inr (.inr (.inl (76, 277)))), none, none, none, none, none] [] (f, l) Q := by
  refine fl_Tq.stp (pc' := 1) (lv' := [some (.inr (.inr (.inl (76, 277)))), none, none, none, none, none]) (st' := [.inr (.inl (0 : Int64))]) (m' := (f, l)) rfl rfl (fl_bo rfl) rfl ?_
  refine fl_Tq.stp (pc' := 2) (lv' := [some (.inr (.inr (.inl (76, 277)))), some (.inr (.inl (0 : Int64))), none, none, none, none]) (st' := []) (m' := (f, l)) rfl rfl (fl_bo rfl) rfl ?_
  refine fl_Tq.stp (pc' := 3) (lv' := [some (.inr (.inr (.inl (76, 277)))), some (.inr (.inl (0 : Int64))), none, none, none, none]) (st' := [.inr (.inl (0 : Int64))]) (m' := (f, l)) rfl rfl (fl_bo rfl) rfl ?_
  refine fl_Tq.stp (pc' := 4) (lv' := [some (.inr (.inr (.inl (76, 277)))), some (.inr (.inl (0 : Int64))), none, some (.inr (.inl (0 : Int64))), none, none]) (st' := []) (m' := (f, l)) rfl rfl (fl_bo rfl) rfl ?_
  refine fl_Tq.cI (c := (0 : Int32)) rfl (by decide +kernel) (fl_bo rfl) ?_
  refine fl_Tq.stp (pc' := 7) (lv' := [some (.inr (.inr (.inl (76, 277)))), some (.inr (.inl (0 : Int64))), none, some (.inr (.inl (0 : Int64))), none, some (.inl (0 : Int32))]) (st' := []) (m' := (f, l)) rfl rfl (fl_bo rfl) rfl ?_
  exact k
theorem y_fu_B {L : Nat} {xs : Nat → Int32} {f : t2_F} {l : t2_L} {Q : Option fl_V → fl_M → Prop} {s t : Int64} {C : Nat} (hC : C < 16) (hkk : (Int32.ofNat C).toInt < (f 280 2).toInt) (k : fl_Tq (pw_P L xs) 292 7 [some (.inr (.inr (.inl (76, 277)))), some (.inr (.inl (s + ((f 280 (444 + 61 * C + 1)).toInt64)))), none, some (.inr (.inl (t + (((3600 : Int32) * (f 280 (444 + 61 * C + 0))).toInt64)))), none, some (.inl ((Int32.ofNat C) + (1 : Int32)))] [] (f, l) Q) : fl_Tq (pw_P L xs) 292 7 [some (.inr (.inr (.inl (76, 277)))), some (.inr (.inl s)), none, some (.inr (.inl t)), none, some (.inl (Int32.ofNat C))] [] (f, l) Q := by
  refine fl_Tq.stp (pc' := 9) (lv' := [some (.inr (.inr (.inl (76, 277)))), some (.inr (.inl s)), none, some (.inr (.inl t)), none, some (.inl (Int32.ofNat C))]) (st' := [.inl (Int32.ofNat C)]) (m' := (f, l)) rfl rfl (fl_bo rfl) rfl ?_
  refine fl_Tq.stp (pc' := 10) (lv' := [some (.inr (.inr (.inl (76, 277)))), some (.inr (.inl s)), none, some (.inr (.inl t)), none, some (.inl (Int32.ofNat C))]) (st' := [.inr (.inr (.inl (76, 277))), .inl (Int32.ofNat C)]) (m' := (f, l)) rfl rfl (fl_bo rfl) rfl ?_
  refine fl_Tq.stp (pc' := 13) (lv' := [some (.inr (.inr (.inl (76, 277)))), some (.inr (.inl s)), none, some (.inr (.inl t)), none, some (.inl (Int32.ofNat C))]) (st' := [.inr (.inr (.inl (79, 280))), .inl (Int32.ofNat C)]) (m' := (f, l)) rfl rfl (fl_bo rfl) rfl ?_
  refine fl_Tq.cI (c := (2 : Int32)) rfl (by decide +kernel) (fl_bo rfl) ?_
  refine fl_Tq.ldV (p := 280) (τ := 79) (n := 29780) (z := (0, 0, 0)) (k := 2) (v := f 280 2) rfl (fl_bo rfl) rfl (by decide +kernel) (by decide) rfl ?_
  refine fl_Tq.jf rfl (fl_bo rfl) (c2_ge_f hkk) rfl ?_
  refine fl_Tq.stp (pc' := 19) (lv' := [some (.inr (.inr (.inl (76, 277)))), some (.inr (.inl s)), none, some (.inr (.inl t)), none, some (.inl (Int32.ofNat C))]) (st' := [.inr (.inl s)]) (m' := (f, l)) rfl rfl (fl_bo rfl) rfl ?_
  refine fl_Tq.stp (pc' := 20) (lv' := [some (.inr (.inr (.inl (76, 277)))), some (.inr (.inl s)), none, some (.inr (.inl t)), none, some (.inl (Int32.ofNat C))]) (st' := [.inr (.inr (.inl (76, 277))), .inr (.inl s)]) (m' := (f, l)) rfl rfl (fl_bo rfl) rfl ?_
  refine fl_Tq.stp (pc' := 22) (lv' := [some (.inr (.inr (.inl (76, 277)))), some (.inr (.inl s)), none, some (.inr (.inl t)), none, some (.inl (Int32.ofNat C))]) (st' := [.inl (Int32.ofNat C), .inr (.inr (.inl (76, 277))), .inr (.inl s)]) (m' := (f, l)) rfl rfl (fl_bo rfl) rfl ?_
  refine fl_Tq.cI (c := (1 : Int32)) rfl (by decide +kernel) (fl_bo rfl) ?_
  refine fl_Tq.cal rfl rfl (fl_bo rfl) rfl ?_
  refine t2_get (C := C) (W := 1) (v := f 280 (444 + 61 * C + 1)) (at_ofN (by omega)) (by decide +kernel) (by omega) (by decide) rfl ?_
  show fl_Tq _ 292 26 [some (.inr (.inr (.inl (76, 277)))), some (.inr (.inl s)), none, some (.inr (.inl t)), none, some (.inl (Int32.ofNat C))] [.inl (f 280 (444 + 61 * C + 1)), .inr (.inl s)] (f, l) _
  refine fl_Tq.stp (pc' := 27) (lv' := [some (.inr (.inr (.inl (76, 277)))), some (.inr (.inl s)), none, some (.inr (.inl t)), none, some (.inl (Int32.ofNat C))]) (st' := [.inr (.inl ((f 280 (444 + 61 * C + 1)).toInt64)), .inr (.inl s)]) (m' := (f, l)) rfl rfl (fl_bo rfl) rfl ?_
  refine fl_Tq.stp (pc' := 28) (lv' := [some (.inr (.inr (.inl (76, 277)))), some (.inr (.inl s)), none, some (.inr (.inl t)), none, some (.inl (Int32.ofNat C))]) (st' := [.inr (.inl (s + ((f 280 (444 + 61 * C + 1)).toInt64)))]) (m' := (f, l)) rfl rfl (fl_bo rfl) rfl ?_
  refine fl_Tq.stp (pc' := 29) (lv' := [some (.inr (.inr (.inl (76, 277)))), some (.inr (.inl (s + ((f 280 (444 + 61 * C + 1)).toInt64)))), none, some (.inr (.inl t)), none, some (.inl (Int32.ofNat C))]) (st' := []) (m' := (f, l)) rfl rfl (fl_bo rfl) rfl ?_
  refine fl_Tq.stp (pc' := 30) (lv' := [some (.inr (.inr (.inl (76, 277)))), some (.inr (.inl (s + ((f 280 (444 + 61 * C + 1)).toInt64)))), none, some (.inr (.inl t)), none, some (.inl (Int32.ofNat C))]) (st' := [.inr (.inl t)]) (m' := (f, l)) rfl rfl (fl_bo rfl) rfl ?_
  refine fl_Tq.stp (pc' := 31) (lv' := [some (.inr (.inr (.inl (76, 277)))), some (.inr (.inl (s + ((f 280 (444 + 61 * C + 1)).toInt64)))), none, some (.inr (.inl t)), none, some (.inl (Int32.ofNat C))]) (st' := [.inr (.inr (.inl (76, 277))), .inr (.inl t)]) (m' := (f, l)) rfl rfl (fl_bo rfl) rfl ?_
  refine fl_Tq.stp (pc' := 33) (lv' := [some (.inr (.inr (.inl (76, 277)))), some (.inr (.inl (s + ((f 280 (444 + 61 * C + 1)).toInt64)))), none, some (.inr (.inl t)), none, some (.inl (Int32.ofNat C))]) (st' := [.inl (Int32.ofNat C), .inr (.inr (.inl (76, 277))), .inr (.inl t)]) (m' := (f, l)) rfl rfl (fl_bo rfl) rfl ?_
  refine fl_Tq.cal rfl rfl (fl_bo rfl) rfl ?_
  refine fl_Tq.cS (c := (3600 : Int32)) rfl (by decide +kernel) (fl_bo rfl) ?_
  refine fl_Tq.stp (pc' := 4) (lv' := [some (.inr (.inr (.inl (76, 277)))), some (.inl (Int32.ofNat C))]) (st' := [.inr (.inr (.inl (76, 277))), .inl (3600 : Int32)]) (m' := (f, l)) rfl rfl (fl_bo rfl) rfl ?_
  refine fl_Tq.stp (pc' := 5) (lv' := [some (.inr (.inr (.inl (76, 277)))), some (.inl (Int32.ofNat C))]) (st' := [.inl (Int32.ofNat C), .inr (.inr (.inl (76, 277))), .inl (3600 : Int32)]) (m' := (f, l)) rfl rfl (fl_bo rfl) rfl ?_
  refine fl_Tq.cI (c := (0 : Int32)) rfl (by decide +kernel) (fl_bo rfl) ?_
  refine fl_Tq.cal rfl rfl (fl_bo rfl) rfl ?_
  refine t2_get (C := C) (W := 0) (v := f 280 (444 + 61 * C + 0)) (at_ofN (by omega)) (by decide +kernel) (by omega) (by decide) rfl ?_
  show fl_Tq _ 195 9 [some (.inr (.inr (.inl (76, 277)))), some (.inl (Int32.ofNat C))] [.inl (f 280 (444 + 61 * C + 0)), .inl (3600 : Int32)] (f, l) _
  refine fl_Tq.stp (pc' := 10) (lv' := [some (.inr (.inr (.inl (76, 277)))), some (.inl (Int32.ofNat C))]) (st' := [.inl ((3600 : Int32) * (f 280 (444 + 61 * C + 0)))]) (m' := (f, l)) rfl rfl (fl_bo rfl) rfl ?_
  refine fl_Tq.ret rfl rfl rfl ?_
  show fl_Tq _ 292 36 [some (.inr (.inr (.inl (76, 277)))), some (.inr (.inl (s + ((f 280 (444 + 61 * C + 1)).toInt64)))), none, some (.inr (.inl t)), none, some (.inl (Int32.ofNat C))] [.inl ((3600 : Int32) * (f 280 (444 + 61 * C + 0))), .inr (.inl t)] (f, l) _
  refine fl_Tq.stp (pc' := 37) (lv' := [some (.inr (.inr (.inl (76, 277)))), some (.inr (.inl (s + ((f 280 (444 + 61 * C + 1)).toInt64)))), none, some (.inr (.inl t)), none, some (.inl (Int32.ofNat C))]) (st' := [.inr (.inl (((3600 : Int32) * (f 280 (444 + 61 * C + 0))).toInt64)), .inr (.inl t)]) (m' := (f, l)) rfl rfl (fl_bo rfl) rfl ?_
  refine fl_Tq.stp (pc' := 38) (lv' := [some (.inr (.inr (.inl (76, 277)))), some (.inr (.inl (s + ((f 280 (444 + 61 * C + 1)).toInt64)))), none, some (.inr (.inl t)), none, some (.inl (Int32.ofNat C))]) (st' := [.inr (.inl (t + (((3600 : Int32) * (f 280 (444 + 61 * C + 0))).toInt64)))]) (m' := (f, l)) rfl rfl (fl_bo rfl) rfl ?_
  refine fl_Tq.stp (pc' := 39) (lv' := [some (.inr (.inr (.inl (76, 277)))), some (.inr (.inl (s + ((f 280 (444 + 61 * C + 1)).toInt64)))), none, some (.inr (.inl (t + (((3600 : Int32) * (f 280 (444 + 61 * C + 0))).toInt64)))), none, some (.inl (Int32.ofNat C))]) (st' := []) (m' := (f, l)) rfl rfl (fl_bo rfl) rfl ?_
  refine fl_Tq.stp (pc' := 42) (lv' := [some (.inr (.inr (.inl (76, 277)))), some (.inr (.inl (s + ((f 280 (444 + 61 * C + 1)).toInt64)))), none, some (.inr (.inl (t + (((3600 : Int32) * (f 280 (444 + 61 * C + 0))).toInt64)))), none, some (.inl ((Int32.ofNat C) + (1 : Int32)))]) (st' := []) (m' := (f, l)) rfl rfl (fl_bo rfl) rfl ?_
  refine fl_Tq.stp (pc' := 7) (lv' := [some (.inr (.inr (.inl (76, 277)))), some (.inr (.inl (s + ((f 280 (444 + 61 * C + 1)).toInt64)))), none, some (.inr (.inl (t + (((3600 : Int32) * (f 280 (444 + 61 * C + 0))).toInt64)))), none, some (.inl ((Int32.ofNat C) + (1 : Int32)))]) (st' := []) (m' := (f, l)) rfl rfl (fl_bo rfl) rfl ?_
  exact k
theorem y_fu_C {L : Nat} {xs : Nat → Int32} {f : t2_F} {l : t2_L} {Q : Option fl_V → fl_M → Prop} {s t : Int64} {C : Nat} (hkk : ¬ ((Int32.ofNat C).toInt < (f 280 2).toInt)) (k : fl_Tq (pw_P L xs) 292 45 [some (.inr (.inr (.inl (76, 277)))), some (.inr (.inl s)), none, some (.inr (.inl t)), none, some (.inl (Int32.ofNat C))] [] (f, l) Q) : fl_Tq (pw_P L xs) 292 7 [some (.inr (.inr (.inl (76, 277)))), some (.inr (.inl s)), none, some (.inr (.inl t)), none, some (.inl (Int32.ofNat C))] [] (f, l) Q := by
  refine fl_Tq.stp (pc' := 9) (lv' := [some (.inr (.inr (.inl (76, 277)))), some (.inr (.inl s)), none, some (.inr (.inl t)), none, some (.inl (Int32.ofNat C))]) (st' := [.inl (Int32.ofNat C)]) (m' := (f, l)) rfl rfl (fl_bo rfl) rfl ?_
  refine fl_Tq.stp (pc' := 10) (lv' := [some (.inr (.inr (.inl (76, 277)))), some (.inr (.inl s)), none, some (.inr (.inl t)), none, some (.inl (Int32.ofNat C))]) (st' := [.inr (.inr (.inl (76, 277))), .inl (Int32.ofNat C)]) (m' := (f, l)) rfl rfl (fl_bo rfl) rfl ?_
  refine fl_Tq.stp (pc' := 13) (lv' := [some (.inr (.inr (.inl (76, 277)))), some (.inr (.inl s)), none, some (.inr (.inl t)), none, some (.inl (Int32.ofNat C))]) (st' := [.inr (.inr (.inl (79, 280))), .inl (Int32.ofNat C)]) (m' := (f, l)) rfl rfl (fl_bo rfl) rfl ?_
  refine fl_Tq.cI (c := (2 : Int32)) rfl (by decide +kernel) (fl_bo rfl) ?_
  refine fl_Tq.ldV (p := 280) (τ := 79) (n := 29780) (z := (0, 0, 0)) (k := 2) (v := f 280 2) rfl (fl_bo rfl) rfl (by decide +kernel) (by decide) rfl ?_
  refine fl_Tq.jt rfl (fl_bo rfl) (c2_ge_t hkk) rfl ?_
  exact k
theorem c0_goal_a {f : t2_F} (I : c0_I f f) : ∀ k : Nat, k ≤ (f 280 2).toInt.toNat → (c0_allCharge_a4 f k = (y_goalOf_a7 f k).1 ∧ c0_allFull_a4 f k = (y_goalOf_a7 f k).2) ∧ (360000 * (k : Int) ≤ (y_goalOf_a7 f k).2.toInt ∧ (y_goalOf_a7 f k).2.toInt ≤ 36000000 * (k : Int)) ∧ 0 ≤ (y_goalOf_a7 f k).1.toInt ∧ (y_goalOf_a7 f k).1.toInt ≤ (y_goalOf_a7 f k).2.toInt := by
  have z : (0 : Int64).toInt = 0 := rfl
  have n16 := I.rhu.1
  intro k
  induction k with
  | zero =>
    intro _
    refine ⟨⟨rfl, rfl⟩, ⟨?_, ?_⟩, ?_, ?_⟩
    · show 360000 * ((0 : Nat) : Int) ≤ (0 : Int64).toInt
      omega
    · show (0 : Int64).toInt ≤ 36000000 * ((0 : Nat) : Int)
      omega
    · show 0 ≤ (0 : Int64).toInt
      omega
    · show (0 : Int64).toInt ≤ (0 : Int64).toInt
      omega
  | succ k ih =>
    intro hk
    obtain ⟨⟨i1, i2⟩, ⟨i3, i4⟩, i5, i6⟩ := ih (by omega)
    obtain ⟨k1, k2, k3⟩ := I.ck (C := k) (by omega)
    have em := t2_36m k1
    obtain ⟨k4, k5⟩ := k1
    have s1 : (y_goalOf_a7 f (k + 1)).1 = (y_goalOf_a7 f k).1 + (f 280 (444 + 61 * k + 1)).toInt64 := rfl
    have s2 : (y_goalOf_a7 f (k + 1)).2 = (y_goalOf_a7 f k).2 + ((3600 : Int32) * (f 280 (444 + 61 * k + 0))).toInt64 := rfl
    have t1 : c0_allCharge_a4 f (k + 1) = c0_allCharge_a4 f k + (f (18 + 4 * k) 2).toInt64 := rfl
    have t2 : c0_allFull_a4 f (k + 1) = c0_allFull_a4 f k + ((f (18 + 4 * k) 0) * (3600 : Int32)).toInt64 := rfl
    have v1 : (y_goalOf_a7 f (k + 1)).1.toInt = (y_goalOf_a7 f k).1.toInt + (f 280 (444 + 61 * k + 1)).toInt := by
      rw [s1, t2_ad64 (by omega) (by rw [t2_i64]; omega), t2_i64]
    have v2 : (y_goalOf_a7 f (k + 1)).2.toInt = (y_goalOf_a7 f k).2.toInt + 3600 * (f 280 (444 + 61 * k + 0)).toInt := by
      rw [s2, t2_ad64 (by omega) (by rw [t2_i64]; omega), t2_i64, em]
    refine ⟨⟨?_, ?_⟩, ⟨?_, ?_⟩, ?_, ?_⟩
    · rw [t1, s1, i1, I.chg (by omega)]
    · rw [t2, s2, i2, I.capa (by omega), Int32.mul_comm]
    · rw [v2]; omega
    · rw [v2]; omega
    · rw [v1]; omega
    · rw [v1, v2]; omega
theorem y_goal_nz {f : t2_F} (I : c0_I f f) (h : ¬ ((f 280 2).toInt = 0)) : (y_goalOf_a7 f ((f 280 2).toInt.toNat)).2 ≠ 0 := by
  have n16 := I.rhu.1
  have := (c0_goal_a I _ (Nat.le_refl _)).2.1.1
  exact t2_nz8 (by omega)
/-! ===== fullness, on both sides ===== -/
abbrev t2_EndJ (L : Nat) (xs : Nat → Int32) (mr : Nat) (ar : List fl_V) (v : Option fl_V) (m1 : fl_M) : Prop := (∃ y : Int64, v = some (.inr (.inl y))) ∧ fl_Tq (pw_P L xs) mr 0 (fl_args (am_mxl (pw_P L xs) mr) ar) [] m1 (fun v2 m2 => v2 = v ∧ t2_Z m2)
/-- a quotient's bits, or nothing -/
noncomputable def t2_full (s a : Int64) : Int64 := if a.toInt = 0 then (0 : Int64) else (FP.ddiv (FP.l2d s) (FP.l2d a)).toInt64
theorem x_full_q {L : Nat} {xs : Nat → Int32} {f : t2_F} {l : t2_L} {Q : Option fl_V → fl_M → Prop} (I : c0_I f f) (k : Q (some (fl_j (t2_full (c0_allCharge_v f) (c0_allFull_v f)))) (f, l)) : fl_Tq (pw_P L xs) 156 0 [some (.inr (.inr (.inl (0, 0)))), none, none] [] (f, l) Q := by
  have n16 := I.rhu.1
  obtain ⟨⟨e1, e2⟩, ⟨b1, b2⟩, b3, b4⟩ := c0_goal_a I _ (Nat.le_refl _)
  have hA : c0_allFull_v f = (y_goalOf_a7 f (f 280 2).toInt.toNat).2 := by
    unfold c0_allFull_v
    rw [show (f 1 5) = f 280 2 from I.1.1.1, e2]
  have hS : c0_allCharge_v f = (y_goalOf_a7 f (f 280 2).toInt.toNat).1 := by
    unfold c0_allCharge_v
    rw [show (f 1 5) = f 280 2 from I.1.1.1, e1]
  rw [← hA] at b1 b2 b4
  rw [← hS] at b3 b4
  refine fl_Tq.stp rfl rfl (fl_bo rfl) rfl ?_
  refine fl_Tq.stp rfl rfl (fl_bo rfl) rfl ?_
  refine fl_Tq.cal rfl rfl (fl_bo rfl) rfl ?_
  refine c0_allFull_q I.hc ?_
  generalize c0_allFull_v f = A at *
  refine fl_Tq.stp rfl rfl (fl_bo rfl) rfl ?_
  refine fl_Tq.stp rfl rfl (fl_bo rfl) rfl ?_
  refine fl_Tq.stp rfl rfl (fl_bo rfl) rfl ?_
  refine fl_Tq.stp rfl rfl (fl_bo rfl) rfl ?_
  unfold t2_full at k
  by_cases h0 : A.toInt = 0
  · have hA0 : A = 0 := Int64.toInt.inj h0
    rw [if_pos h0] at k
    refine fl_Tq.zf rfl (fl_bo rfl) (by rw [hA0]; decide +kernel) rfl ?_
    refine fl_Tq.stp rfl rfl (fl_bo rfl) rfl ?_
    exact fl_Tq.ret rfl rfl rfl k
  · rw [if_neg h0] at k
    have ne : am_c1 .ne (lg_cmp A 0) = true := by
      have pos : 0 < (lg_cmp A (0 : Int64)).toInt := t2_cmp0.mpr (by omega)
      rw [at_c1]
      show (!decide ((lg_cmp A 0).toInt = 0)) = true
      rw [decide_eq_false (by omega)]
      rfl
    refine fl_Tq.zt rfl (fl_bo rfl) ne rfl ?_
    refine fl_Tq.stp rfl rfl (fl_bo rfl) rfl ?_
    refine fl_Tq.stp rfl rfl (fl_bo rfl) rfl ?_
    refine fl_Tq.cal rfl rfl (fl_bo rfl) rfl ?_
    refine c0_allCharge_q I.hc ?_
    generalize c0_allCharge_v f = S at *
    refine fl_Tq.un (w := fl_d (FP.l2d S)) rfl rfl rfl (fun _ _ _ => rfl) ?_
    refine fl_Tq.stp rfl rfl (fl_bo rfl) rfl ?_
    refine fl_Tq.un (w := fl_d (FP.l2d A)) rfl rfl rfl (fun _ _ _ => rfl) ?_
    have hx : A ≠ 0 := t2_nz8 h0
    have nn : vf_n64 (FP.ddiv (FP.l2d S) (FP.l2d A)) := fp_div64 (fp_of_int64 S).1 ((fp_of_int64 A).2 hx).1 ((fp_of_int64 A).2 hx).2
    refine fl_Tq.bi (u := fl_d (FP.ddiv (FP.l2d S) (FP.l2d A))) rfl rfl rfl (fl_dbin (fun _ _ _ => rfl) nn) ?_
    refine fl_Tq.cal rfl rfl (fl_bo rfl) rfl ?_
    rcases ff_quo (s := S) (a := A) (S := S.toInt.toNat) (A := A.toInt.toNat) (by omega) (by omega) (by omega) (by omega) (by omega) with ⟨-, e⟩ | ⟨E, T, g1, g2, g3, e⟩
    · rw [e] at k ⊢
      refine ff_181z ?_
      exact fl_Tq.ret rfl rfl rfl k
    · rw [e] at k ⊢
      refine ff_181 g1 g2 g3 ?_
      exact fl_Tq.ret rfl rfl rfl k
theorem y_full_q {L : Nat} {xs : Nat → Int32} {f : t2_F} {l : t2_L} {Q : Option fl_V → fl_M → Prop} (I : c0_I f f) (k : Q (some (fl_j (t2_full (c0_allCharge_v f) (c0_allFull_v f)))) (f, l)) : fl_Tq (pw_P L xs) 292 0 [some (.inr (.inr (.inl (76, 277)))), none, none, none, none, none] [] (f, l) Q := by
  have n16 := I.rhu.1
  obtain ⟨⟨e1, e2⟩, ⟨b1, b2⟩, b3, b4⟩ := c0_goal_a I _ (Nat.le_refl _)
  have hA : c0_allFull_v f = (y_goalOf_a7 f (f 280 2).toInt.toNat).2 := by
    unfold c0_allFull_v
    rw [show (f 1 5) = f 280 2 from I.1.1.1, e2]
  have hS : c0_allCharge_v f = (y_goalOf_a7 f (f 280 2).toInt.toNat).1 := by
    unfold c0_allCharge_v
    rw [show (f 1 5) = f 280 2 from I.1.1.1, e1]
  rw [hA, hS] at k
  refine y_fu_A ?_
  refine t2_for (n := (f 280 2).toInt.toNat) (S := fun j => fl_Tq (pw_P L xs) 292 7 [some (.inr (.inr (.inl (76, 277)))), some (.inr (.inl (y_goalOf_a7 f j).1)), none, some (.inr (.inl (y_goalOf_a7 f j).2)), none, some (.inl (Int32.ofNat j))] [] (f, l) Q) (fun j hj hS => ?_) ?_
  · have ej : (Int32.ofNat j).toInt = j := at_ofN (by omega)
    refine y_fu_B (by omega) (by rw [ej]; omega) ?_
    rw [t2_k1]
    exact hS
  · have ej : (Int32.ofNat (f 280 2).toInt.toNat).toInt = ((f 280 2).toInt.toNat : Nat) := at_ofN (by omega)
    refine y_fu_C (by rw [ej]; omega) ?_
    generalize (y_goalOf_a7 f (f 280 2).toInt.toNat).1 = S at *
    generalize (y_goalOf_a7 f (f 280 2).toInt.toNat).2 = A at *
    refine fl_Tq.stp rfl rfl (fl_bo rfl) rfl ?_
    refine fl_Tq.stp rfl rfl (fl_bo rfl) rfl ?_
    refine fl_Tq.stp rfl rfl (fl_bo rfl) rfl ?_
    unfold t2_full at k
    by_cases h0 : A.toInt = 0
    · have hA0 : A = 0 := Int64.toInt.inj h0
      rw [if_pos h0] at k
      refine fl_Tq.zf rfl (fl_bo rfl) (by rw [hA0]; decide +kernel) rfl ?_
      refine fl_Tq.stp rfl rfl (fl_bo rfl) rfl ?_
      refine fl_Tq.stp rfl rfl (fl_bo rfl) rfl ?_
      exact fl_Tq.ret rfl rfl rfl k
    · rw [if_neg h0] at k
      have ne : am_c1 .ne (lg_cmp A 0) = true := by
        have pos : 0 < (lg_cmp A (0 : Int64)).toInt := t2_cmp0.mpr (by omega)
        rw [at_c1]
        show (!decide ((lg_cmp A 0).toInt = 0)) = true
        rw [decide_eq_false (by omega)]
        rfl
      refine fl_Tq.zt rfl (fl_bo rfl) ne rfl ?_
      refine fl_Tq.stp rfl rfl (fl_bo rfl) rfl ?_
      refine fl_Tq.un (w := fl_d (FP.l2d S)) rfl rfl rfl (fun _ _ _ => rfl) ?_
      refine fl_Tq.stp rfl rfl (fl_bo rfl) rfl ?_
      refine fl_Tq.un (w := fl_d (FP.l2d A)) rfl rfl rfl (fun _ _ _ => rfl) ?_
      have hx : A ≠ 0 := t2_nz8 h0
      have nn : vf_n64 (FP.ddiv (FP.l2d S) (FP.l2d A)) := fp_div64 (fp_of_int64 S).1 ((fp_of_int64 A).2 hx).1 ((fp_of_int64 A).2 hx).2
      refine fl_Tq.bi (u := fl_d (FP.ddiv (FP.l2d S) (FP.l2d A))) rfl rfl rfl (fl_dbin (fun _ _ _ => rfl) nn) ?_
      refine fl_Tq.cal rfl rfl (fl_bo rfl) rfl ?_
      rcases ff_quo (s := S) (a := A) (S := S.toInt.toNat) (A := A.toInt.toNat) (by omega) (by omega) (by omega) (by omega) (by omega) with ⟨-, e⟩ | ⟨E, T, g1, g2, g3, e⟩
      · rw [e] at k ⊢
        refine ff_327 (by decide +kernel) ?_
        exact fl_Tq.ret rfl rfl rfl k
      · rw [e] at k ⊢
        refine ff_327 (ff_self (by omega) g2 g3) ?_
        exact fl_Tq.ret rfl rfl rfl k
theorem t2_cmp_Y {L : Nat} {xs : Nat → Int32} {f : t2_F} {l : t2_L} (_hall : ∀ c ∈ at_CM ++ at_CA, at_Valid at_XI (pw_P L xs) c) (hg : t2_Z (f, l)) : fl_Tq (pw_P L xs) 156 0 (fl_args (am_mxl (pw_P L xs) 156) [lx_x]) [] (f, l) (t2_EndJ L xs 292 [at_this]) := by
  have I : c0_I f f := hg.2.1
  show fl_Tq (pw_P L xs) 156 0 [some (.inr (.inr (.inl (0, 0)))), none, none] [] (f, l) _
  refine x_full_q I ⟨⟨_, rfl⟩, ?_⟩
  show fl_Tq (pw_P L xs) 292 0 [some (.inr (.inr (.inl (76, 277)))), none, none, none, none, none] [] (f, l) _
  exact y_full_q I ⟨rfl, hg⟩
