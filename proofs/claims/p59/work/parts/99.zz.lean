section
/-! ===== 64: numbers of whole significands; products with powers of two, quotients, differences that are exact ===== -/
section FB64
variable {E F T c d j s : Nat} {e q : Int}
theorem fb_l264 {n m : Nat} (h1 : 2 ^ m ≤ n) (h2 : n < 2 ^ (m + 1)) : n.log2 = m := by
  have h0 : n ≠ 0 := by
    have := Nat.two_pow_pos m
    omega
  exact (Nat.log2_eq_iff h0).mpr ⟨h1, h2⟩
theorem fb_dec64 (h1 : 1 ≤ E) (h2 : E < 2048 - 1) (hT : T < 4503599627370496) : FP.Core.decode FP.Core.b64 (E * 4503599627370496 + T) = .fin false (4503599627370496 + T) (-1074 + ((E : Int) - 1)) := by
  unfold FP.Core.decode FP.Core.fieldE FP.Core.fieldT FP.Core.fieldS
  rw [fp_x64, fp_t64, fp_qn64]
  have a : (E * 4503599627370496 + T) / 4503599627370496 = E := by omega
  have b : (E * 4503599627370496 + T) % 4503599627370496 = T := by omega
  rw [a, b, Nat.mod_eq_of_lt (show E < 2048 by omega), Nat.div_eq_of_lt (show E < 2048 by omega), if_neg (by omega), if_neg (by omega)]
  rfl
theorem fb_d064 : FP.Core.decode FP.Core.b64 0 = .fin false 0 (-1074) := by decide +kernel
theorem fb_enc64 (h1 : 1 ≤ E) (hc : 4503599627370496 ≤ c) (hq : q = -1074 + ((E : Int) - 1)) : FP.Core.encode FP.Core.b64 (.fin false c q) = E * 4503599627370496 + (c - 4503599627370496) := by
  show (if c < FP.Core.b64.tails then FP.Core.assemble FP.Core.b64 false 0 c else FP.Core.assemble FP.Core.b64 false ((q - FP.Core.b64.qmin).toNat + 1) (c - FP.Core.b64.tails)) = _
  unfold FP.Core.assemble
  rw [fp_x64, fp_t64, fp_qn64, if_neg (by omega)]
  have a : (q - (-1074)).toNat + 1 = E := by omega
  rw [a]
  show (0 * 2048 + E) * 4503599627370496 + (c - 4503599627370496) = _
  rw [Nat.zero_mul, Nat.zero_add]
/-- what is settled -/
theorem fb_set64 (hc : c < 2 * 4503599627370496) (hq : q ≤ 971) : FP.Core.settle FP.Core.b64 false c q = .fin false c q := by
  unfold FP.Core.settle FP.Core.bound
  rw [fp_p64, fp_qx64, if_pos (by omega), if_pos hq]
theorem fb_near {a b : Nat} (hb : 0 < b) : FP.Core.nearest (a * b) b = a := by
  unfold FP.Core.nearest
  rw [Nat.mul_mod_left, if_pos (by omega), Nat.mul_div_cancel _ hb]
/-- a significand, moved up by j digits: exact -/
theorem fb_up64 (h1 : 4503599627370496 ≤ c) (h2 : c < 2 * 4503599627370496) (hq1 : -1074 ≤ e + j) (hq2 : e + j ≤ 971) : FP.Core.roundRatio FP.Core.b64 false (c * 2 ^ j) 1 e = .fin false c (e + j) := by
  have hj := Nat.two_pow_pos j
  have n0 : c * 2 ^ j ≠ 0 := Nat.mul_ne_zero (by omega) (by omega)
  have l1 : (c * 2 ^ j).log2 = 52 + j := by
    refine fb_l264 ?_ ?_
    · rw [Nat.pow_add]
      exact Nat.mul_le_mul_right _ (by omega)
    · rw [show 52 + j + 1 = (52 + 1) + j by omega, Nat.pow_add]
      exact Nat.mul_lt_mul_of_pos_right (by omega) hj
  have l2 : (1 : Nat).log2 = 0 := by decide +kernel
  have ld : FP.Core.leading (c * 2 ^ j) 1 = ((52 + j : Nat) : Int) := by
    unfold FP.Core.leading
    rw [l1, l2]
    dsimp only
    rw [if_pos]
    · omega
    · have a1 : (((52 + j : Nat) : Int) - ((0 : Nat) : Int)).toNat = 52 + j := by omega
      have a2 : (-(((52 + j : Nat) : Int) - ((0 : Nat) : Int))).toNat = 0 := by omega
      rw [a1, a2, Nat.one_mul, Nat.pow_zero, Nat.mul_one, Nat.pow_add]
      exact Nat.mul_le_mul_right _ (by omega)
  have qu : FP.Core.quantum FP.Core.b64 (c * 2 ^ j) 1 e = e + j := by
    unfold FP.Core.quantum
    rw [ld, fp_qn64, fp_pi64]
    omega
  unfold FP.Core.roundRatio
  rw [if_neg n0, qu]
  unfold FP.Core.roundAt FP.Core.unitsNum FP.Core.unitsDen
  have b1 : (e - (e + j)).toNat = 0 := by omega
  have b2 : (e + j - e).toNat = j := by omega
  rw [b1, b2, Nat.pow_zero, Nat.mul_one, Nat.one_mul, fb_near hj]
  exact fb_set64 h2 hq2
/-- a number of fewer digits, written with all: exact -/
theorem fb_fill64 {n : Nat} (h1 : 4503599627370496 ≤ n * 2 ^ s) (h2 : n * 2 ^ s < 2 * 4503599627370496) (hq1 : -1074 ≤ e - s) (hq2 : e - s ≤ 971) : FP.Core.roundRatio FP.Core.b64 false n 1 e = .fin false (n * 2 ^ s) (e - s) := by
  have hs := Nat.two_pow_pos s
  have n0 : n ≠ 0 := fun h => by rw [h, Nat.zero_mul] at h1; omega
  have s52 : s ≤ 52 := by
    apply Classical.byContradiction
    intro h
    have a : 2 ^ (52 + 1) ≤ 2 ^ s := Nat.pow_le_pow_right (by decide) (by omega)
    have b : 1 * 2 ^ s ≤ n * 2 ^ s := Nat.mul_le_mul_right _ (by omega)
    omega
  have e2 : 2 ^ (52 - s) * 2 ^ s = 4503599627370496 := by
    rw [← Nat.pow_add, show 52 - s + s = 52 by omega]
  have l1 : n.log2 = 52 - s := by
    refine fb_l264 ?_ ?_
    · exact Nat.le_of_mul_le_mul_right (by rw [e2]; exact h1) hs
    · refine Nat.lt_of_mul_lt_mul_right (a := 2 ^ s) ?_
      rw [Nat.pow_succ, Nat.mul_right_comm, e2]
      omega
  have l2 : (1 : Nat).log2 = 0 := by decide +kernel
  have ld : FP.Core.leading n 1 = ((52 - s : Nat) : Int) := by
    unfold FP.Core.leading
    rw [l1, l2]
    dsimp only
    rw [if_pos]
    · omega
    · have a1 : (((52 - s : Nat) : Int) - ((0 : Nat) : Int)).toNat = 52 - s := by omega
      have a2 : (-(((52 - s : Nat) : Int) - ((0 : Nat) : Int))).toNat = 0 := by omega
      rw [a1, a2, Nat.one_mul, Nat.pow_zero, Nat.mul_one]
      exact Nat.le_of_mul_le_mul_right (by rw [e2]; exact h1) hs
  have qu : FP.Core.quantum FP.Core.b64 n 1 e = e - s := by
    unfold FP.Core.quantum
    rw [ld, fp_qn64, fp_pi64]
    omega
  unfold FP.Core.roundRatio
  rw [if_neg n0, qu]
  unfold FP.Core.roundAt FP.Core.unitsNum FP.Core.unitsDen
  have b1 : (e - (e - s)).toNat = s := by omega
  have b2 : (e - s - e).toNat = 0 := by omega
  rw [b1, b2, Nat.pow_zero, Nat.mul_one]
  have nn : FP.Core.nearest (n * 2 ^ s) 1 = n * 2 ^ s := by
    have := fb_near (a := n * 2 ^ s) (b := 1) (by decide)
    rw [Nat.mul_one] at this
    exact this
  rw [nn]
  exact fb_set64 h2 hq2
/-- every number has such an s -/
theorem fb_ex64 {n : Nat} (h0 : n ≠ 0) (h : n < 2 * 4503599627370496) : ∃ s, s ≤ 52 ∧ 4503599627370496 ≤ n * 2 ^ s ∧ n * 2 ^ s < 2 * 4503599627370496 ∧ n.log2 + s = 52 := by
  have a := Nat.log2_self_le h0
  have b := @Nat.lt_log2_self n
  have l : n.log2 ≤ 52 := by
    apply Classical.byContradiction
    intro hl
    have : 2 ^ (52 + 1) ≤ 2 ^ n.log2 := Nat.pow_le_pow_right (by decide) (by omega)
    omega
  refine ⟨52 - n.log2, by omega, ?_, ?_, by omega⟩
  · have e : 2 ^ n.log2 * 2 ^ (52 - n.log2) = 4503599627370496 := by rw [← Nat.pow_add, show n.log2 + (52 - n.log2) = 52 by omega]
    have := Nat.mul_le_mul_right (2 ^ (52 - n.log2)) a
    omega
  · have e : 2 ^ (n.log2 + 1) * 2 ^ (52 - n.log2) = 2 * 4503599627370496 := by rw [← Nat.pow_add, show n.log2 + 1 + (52 - n.log2) = 52 + 1 by omega]
    have := Nat.mul_lt_mul_of_pos_right b (Nat.two_pow_pos (52 - n.log2))
    omega
/-- times a power of two -/
theorem fb_mul64 (h1 : 1 ≤ E) (h2 : E < 2048 - 1) (hT : T < 4503599627370496) (f1 : 1 ≤ F) (f2 : F < 2048 - 1) (g1 : 1023 + 1 ≤ E + F) (g2 : E + F < 1023 + 2048 - 1) : FP.Core.mul FP.Core.b64 (E * 4503599627370496 + T) (F * 4503599627370496) = (E + F - 1023) * 4503599627370496 + T := by
  unfold FP.Core.mul
  have d2 := fb_dec64 (T := 0) f1 f2 (by decide)
  rw [Nat.add_zero] at d2
  rw [fb_dec64 h1 h2 hT, d2]
  show FP.Core.encode _ (FP.Core.roundRatio FP.Core.b64 (false != false) ((4503599627370496 + T) * (4503599627370496 + 0)) 1 _) = _
  have := fb_up64 (c := 4503599627370496 + T) (j := 52) (e := (-1074 + ((E : Int) - 1)) + (-1074 + ((F : Int) - 1))) (by omega) (by omega) (by omega) (by omega)
  rw [show (4503599627370496 + 0) = 2 ^ 52 from by decide]
  show FP.Core.encode _ (FP.Core.roundRatio FP.Core.b64 false ((4503599627370496 + T) * 2 ^ 52) 1 ((-1074 + ((E : Int) - 1)) + (-1074 + ((F : Int) - 1)))) = _
  rw [this, fb_enc64 (E := E + F - 1023) (by omega) (by omega) (by omega)]
  omega
theorem fb_mul064 (f1 : 1 ≤ F) (f2 : F < 2048 - 1) : FP.Core.mul FP.Core.b64 0 (F * 4503599627370496) = 0 := by
  unfold FP.Core.mul
  have d2 := fb_dec64 (T := 0) f1 f2 (by decide)
  rw [Nat.add_zero] at d2
  rw [fb_d064, d2]
  show FP.Core.encode FP.Core.b64 (FP.Core.roundRatio FP.Core.b64 (false != false) (0 * (4503599627370496 + 0)) 1 _) = _
  rw [Nat.zero_mul]
  unfold FP.Core.roundRatio
  rw [if_pos rfl, fp_qn64]
  decide +kernel
/-- less one: what stands behind the point -/
theorem fb_sub164 (hT : T < 4503599627370496) : FP.Core.sub FP.Core.b64 (1023 * 4503599627370496 + T) (1023 * 4503599627370496) = FP.Core.encode FP.Core.b64 (FP.Core.roundRatio FP.Core.b64 false T 1 (-52)) := by
  unfold FP.Core.sub
  have d2 := fb_dec64 (E := 1023) (T := 0) (by decide) (by decide) (by decide)
  rw [Nat.add_zero] at d2
  rw [fb_dec64 (by decide) (by decide) hT, d2]
  have ee : (-1074 + (((1023 : Nat) : Int) - 1)) = (-52 : Int) := by decide
  rw [ee]
  have su : FP.Core.sumUnits false (4503599627370496 + T) (-52) (!false) (4503599627370496 + 0) (-52) (min (-52) (-52)) = (T : Int) := by
    unfold FP.Core.sumUnits FP.Core.inUnits FP.Core.signed
    have z : ((-52 : Int) - min (-52) (-52)).toNat = 0 := by decide
    rw [z, Nat.pow_zero, Nat.mul_one, Nat.mul_one]
    show ((4503599627370496 + T : Nat) : Int) + -((4503599627370496 + 0 : Nat) : Int) = T
    omega
  show FP.Core.encode _ (FP.Core.roundRatio FP.Core.b64 (FP.Core.sumSign false (!false) (FP.Core.sumUnits false (4503599627370496 + T) (-52) (!false) (4503599627370496 + 0) (-52) (min (-52) (-52)))) (FP.Core.sumUnits false (4503599627370496 + T) (-52) (!false) (4503599627370496 + 0) (-52) (min (-52) (-52))).natAbs 1 (min (-52) (-52))) = _
  rw [su]
  have sg : FP.Core.sumSign false (!false) (T : Int) = false := by
    unfold FP.Core.sumSign
    split
    · rfl
    · exact decide_eq_false (by omega)
  rw [sg]
  rfl
/-- that, as a whole number -/
theorem fb_frac64 (hT : T < 4503599627370496) : FP.Core.mul FP.Core.b64 (FP.Core.sub FP.Core.b64 (1023 * 4503599627370496 + T) (1023 * 4503599627370496)) (1075 * 4503599627370496) = FP.Core.fromInt FP.Core.b64 (T : Int) := by
  rw [fb_sub164 hT]
  unfold FP.Core.fromInt FP.Core.ofInt
  have si : decide ((T : Int) < 0) = false := decide_eq_false (by omega)
  rw [si]
  show _ = FP.Core.encode _ (FP.Core.roundRatio FP.Core.b64 false (T : Int).natAbs 1 0)
  rw [Int.natAbs_natCast]
  by_cases h0 : T = 0
  · subst h0
    have z : FP.Core.encode FP.Core.b64 (FP.Core.roundRatio FP.Core.b64 false 0 1 (-52)) = 0 := by decide +kernel
    rw [z, fb_mul064 (by decide) (by decide)]
    decide +kernel
  · obtain ⟨s, s1, s2, s3, -⟩ := fb_ex64 h0 (by omega)
    rw [fb_fill64 s2 s3 (by omega) (by omega), fb_fill64 s2 s3 (by omega) (by omega)]
    rw [fb_enc64 (E := 1023 - s) (by omega) s2 (by omega), fb_enc64 (E := 1075 - s) (by omega) s2 (by omega)]
    rw [fb_mul64 (by omega) (by omega) (by omega) (by decide) (by decide) (by omega) (by omega)]
    rw [show 1023 - s + 1075 - 1023 = 1075 - s by omega]
/-- whole numbers there and back -/
theorem fb_int64 (h0 : T ≠ 0) (hT : T < 2 * 4503599627370496) : ∃ s, s ≤ 52 ∧ 4503599627370496 ≤ T * 2 ^ s ∧ T * 2 ^ s < 2 * 4503599627370496 ∧ T.log2 + s = 52 ∧ FP.Core.fromInt FP.Core.b64 (T : Int) = (1075 - s) * 4503599627370496 + (T * 2 ^ s - 4503599627370496) := by
  obtain ⟨s, s1, s2, s3, s4⟩ := fb_ex64 h0 hT
  refine ⟨s, s1, s2, s3, s4, ?_⟩
  unfold FP.Core.fromInt FP.Core.ofInt
  have si : decide ((T : Int) < 0) = false := decide_eq_false (by omega)
  rw [si]
  show FP.Core.encode _ (FP.Core.roundRatio FP.Core.b64 false (T : Int).natAbs 1 0) = _
  rw [Int.natAbs_natCast, fb_fill64 s2 s3 (by omega) (by omega), fb_enc64 (E := 1075 - s) (by omega) s2 (by omega)]
theorem fb_toint64 {lo hi : Int} (hT : T < 2 * 4503599627370496) (hl : lo ≤ 0) (hh : (T : Int) ≤ hi) : FP.Core.toInt lo hi (FP.Core.decode FP.Core.b64 (FP.Core.fromInt FP.Core.b64 (T : Int))) = T := by
  by_cases h0 : T = 0
  · subst h0
    have z : FP.Core.fromInt FP.Core.b64 ((0 : Nat) : Int) = 0 := by decide +kernel
    rw [z, fb_d064]
    show max lo (min hi (FP.Core.truncate false 0 (-1074))) = _
    have : FP.Core.truncate false 0 (-1074) = 0 := by
      unfold FP.Core.truncate FP.Core.signed
      rw [Nat.zero_mul, Nat.zero_div]
      rfl
    rw [this]
    omega
  · obtain ⟨s, s1, s2, s3, -, e⟩ := fb_int64 h0 hT
    rw [e, fb_dec64 (by omega) (by omega) (by omega)]
    show max lo (min hi (FP.Core.truncate false (4503599627370496 + (T * 2 ^ s - 4503599627370496)) (-1074 + (((1075 - s : Nat) : Int) - 1)))) = _
    have tr : FP.Core.truncate false (4503599627370496 + (T * 2 ^ s - 4503599627370496)) (-1074 + (((1075 - s : Nat) : Int) - 1)) = T := by
      unfold FP.Core.truncate FP.Core.signed
      have a1 : (-1074 + (((1075 - s : Nat) : Int) - 1)).toNat = 0 := by omega
      have a2 : (-(-1074 + (((1075 - s : Nat) : Int) - 1))).toNat = s := by omega
      rw [a1, a2, Nat.pow_zero, Nat.mul_one, show 4503599627370496 + (T * 2 ^ s - 4503599627370496) = T * 2 ^ s by omega, Nat.mul_div_cancel _ (Nat.two_pow_pos s)]
      rfl
    rw [tr]
    omega
/-- the order of such numbers -/
theorem fb_cmp64 (h1 : 1 ≤ E) (h2 : E < 2048 - 1) (hT : T < 4503599627370496) (f1 : 1 ≤ F) (f2 : F < 2048 - 1) : (E < F → FP.Core.cmp FP.Core.b64 (E * 4503599627370496 + T) (F * 4503599627370496) = some .lt) ∧ (F ≤ E → FP.Core.cmp FP.Core.b64 (E * 4503599627370496 + T) (F * 4503599627370496) = some .eq ∨ FP.Core.cmp FP.Core.b64 (E * 4503599627370496 + T) (F * 4503599627370496) = some .gt) := by
  have d2 := fb_dec64 (T := 0) f1 f2 (by decide)
  rw [Nat.add_zero, Nat.add_zero] at d2
  unfold FP.Core.cmp
  rw [fb_dec64 h1 h2 hT, d2]
  show (E < F → some (compare (FP.Core.signed false (FP.Core.inUnits (4503599627370496 + T) (-1074 + ((E : Int) - 1)) (min (-1074 + ((E : Int) - 1)) (-1074 + ((F : Int) - 1))))) (FP.Core.signed false (FP.Core.inUnits 4503599627370496 (-1074 + ((F : Int) - 1)) (min (-1074 + ((E : Int) - 1)) (-1074 + ((F : Int) - 1)))))) = some .lt) ∧ (F ≤ E → some (compare (FP.Core.signed false (FP.Core.inUnits (4503599627370496 + T) (-1074 + ((E : Int) - 1)) (min (-1074 + ((E : Int) - 1)) (-1074 + ((F : Int) - 1))))) (FP.Core.signed false (FP.Core.inUnits 4503599627370496 (-1074 + ((F : Int) - 1)) (min (-1074 + ((E : Int) - 1)) (-1074 + ((F : Int) - 1)))))) = some .eq ∨ some (compare (FP.Core.signed false (FP.Core.inUnits (4503599627370496 + T) (-1074 + ((E : Int) - 1)) (min (-1074 + ((E : Int) - 1)) (-1074 + ((F : Int) - 1))))) (FP.Core.signed false (FP.Core.inUnits 4503599627370496 (-1074 + ((F : Int) - 1)) (min (-1074 + ((E : Int) - 1)) (-1074 + ((F : Int) - 1)))))) = some .gt)
  unfold FP.Core.inUnits FP.Core.signed
  refine ⟨fun h => ?_, fun h => ?_⟩
  · have a1 : (-1074 + ((E : Int) - 1) - min (-1074 + ((E : Int) - 1)) (-1074 + ((F : Int) - 1))).toNat = 0 := by omega
    have a2 : (-1074 + ((F : Int) - 1) - min (-1074 + ((E : Int) - 1)) (-1074 + ((F : Int) - 1))).toNat = (F - E - 1) + 1 := by omega
    have b := Nat.two_pow_pos (F - E - 1)
    have lt : (4503599627370496 + T) * 2 ^ 0 < 4503599627370496 * 2 ^ ((F - E - 1) + 1) := by
      rw [Nat.pow_zero, Nat.mul_one, Nat.pow_succ]
      have : 4503599627370496 * 1 ≤ 4503599627370496 * 2 ^ (F - E - 1) := Nat.mul_le_mul_left _ b
      omega
    rw [a1, a2]
    show some (compareOfLessAndEq _ _) = _
    unfold compareOfLessAndEq
    rw [if_pos (by simp only [Bool.false_eq_true, if_false]; omega)]
  · have a1 : (-1074 + ((E : Int) - 1) - min (-1074 + ((E : Int) - 1)) (-1074 + ((F : Int) - 1))).toNat = E - F := by omega
    have a2 : (-1074 + ((F : Int) - 1) - min (-1074 + ((E : Int) - 1)) (-1074 + ((F : Int) - 1))).toNat = 0 := by omega
    have b := Nat.two_pow_pos (E - F)
    have le : 4503599627370496 * 2 ^ 0 ≤ (4503599627370496 + T) * 2 ^ (E - F) := by
      rw [Nat.pow_zero, Nat.mul_one]
      have : (4503599627370496 + T) * 1 ≤ (4503599627370496 + T) * 2 ^ (E - F) := Nat.mul_le_mul_left _ b
      omega
    rw [a1, a2]
    simp only [Bool.false_eq_true, if_false]
    show some (compareOfLessAndEq _ _) = _ ∨ some (compareOfLessAndEq _ _) = _
    unfold compareOfLessAndEq
    rw [if_neg (by omega)]
    by_cases e : (((4503599627370496 + T) * 2 ^ (E - F) : Nat) : Int) = ((4503599627370496 * 2 ^ 0 : Nat) : Int)
    · rw [if_pos e]
      exact Or.inl rfl
    · rw [if_neg e]
      exact Or.inr rfl
/-- above nothing -/
theorem fb_pos64 (h1 : 1 ≤ E) (h2 : E < 2048 - 1) (hT : T < 4503599627370496) : FP.Core.cmp FP.Core.b64 (E * 4503599627370496 + T) 0 = some .gt := by
  unfold FP.Core.cmp
  rw [fb_dec64 h1 h2 hT, fb_d064]
  show some (compareOfLessAndEq (((4503599627370496 + T) * 2 ^ (-1074 + ((E : Int) - 1) - min (-1074 + ((E : Int) - 1)) (-1074)).toNat : Nat) : Int) ((0 * 2 ^ ((-1074 : Int) - min (-1074 + ((E : Int) - 1)) (-1074)).toNat : Nat) : Int)) = _
  have b := Nat.two_pow_pos (-1074 + ((E : Int) - 1) - min (-1074 + ((E : Int) - 1)) (-1074)).toNat
  have : (4503599627370496 + T) * 1 ≤ (4503599627370496 + T) * 2 ^ (-1074 + ((E : Int) - 1) - min (-1074 + ((E : Int) - 1)) (-1074)).toNat := Nat.mul_le_mul_left _ b
  rw [Nat.zero_mul]
  unfold compareOfLessAndEq
  rw [if_neg (by omega), if_neg (by omega)]
theorem fb_zero64 : FP.Core.cmp FP.Core.b64 0 0 = some .eq := by decide +kernel
/-- by a power of two -/
theorem fb_half64 (h1 : 1 ≤ E) (h2 : E < 2048 - 1) (hT : T < 4503599627370496) (f1 : 1 ≤ F) (f2 : F < 2048 - 1) (g1 : F < E + 1023) (g2 : E + 1023 < F + 2048 - 1) : FP.Core.div FP.Core.b64 (E * 4503599627370496 + T) (F * 4503599627370496) = (E + 1023 - F) * 4503599627370496 + T := by
  unfold FP.Core.div
  have d2 := fb_dec64 (T := 0) f1 f2 (by decide)
  rw [Nat.add_zero, Nat.add_zero] at d2
  rw [fb_dec64 h1 h2 hT, d2]
  show FP.Core.encode FP.Core.b64 (if 4503599627370496 = 0 then (if 4503599627370496 + T = 0 then .nan else .inf (false != false)) else FP.Core.roundRatio FP.Core.b64 (false != false) (4503599627370496 + T) 4503599627370496 ((-1074 + ((E : Int) - 1)) - (-1074 + ((F : Int) - 1)))) = _
  rw [if_neg (by decide)]
  have lt : (4503599627370496 + T).log2 = 52 := fb_l264 (by omega) (by omega)
  have l2 : (4503599627370496 : Nat).log2 = 52 := by decide +kernel
  have ld : FP.Core.leading (4503599627370496 + T) 4503599627370496 = 0 := by
    unfold FP.Core.leading
    rw [lt, l2]
    dsimp only
    rw [Int.sub_self, if_pos]
    show 4503599627370496 * 2 ^ 0 ≤ (4503599627370496 + T) * 2 ^ 0
    omega
  unfold FP.Core.roundRatio
  rw [if_neg (by omega)]
  have qu : FP.Core.quantum FP.Core.b64 (4503599627370496 + T) 4503599627370496 (-1074 + ((E : Int) - 1) - (-1074 + ((F : Int) - 1))) = (E : Int) - F - 52 := by
    unfold FP.Core.quantum
    rw [ld, fp_qn64, fp_pi64]
    omega
  rw [qu]
  unfold FP.Core.roundAt FP.Core.unitsNum FP.Core.unitsDen
  have b1 : (-1074 + ((E : Int) - 1) - (-1074 + ((F : Int) - 1)) - ((E : Int) - F - 52)).toNat = 52 := by omega
  have b2 : ((E : Int) - F - 52 - (-1074 + ((E : Int) - 1) - (-1074 + ((F : Int) - 1)))).toNat = 0 := by omega
  rw [b1, b2, Nat.pow_zero, Nat.mul_one, show (2 ^ 52 : Nat) = 4503599627370496 from by decide, fb_near (by decide)]
  show FP.Core.encode _ (FP.Core.settle FP.Core.b64 false (4503599627370496 + T) _) = _
  rw [fb_set64 (by omega) (by omega), fb_enc64 (E := E + 1023 - F) (by omega) (by omega) (by omega)]
  omega
/-- a quotient of such numbers that is at most one -/
theorem fb_quo64 (h1 : 1 ≤ E) (h2 : E < 2048 - 1) (hT : T < 4503599627370496) (f1 : 1 ≤ F) (f2 : F < 2048 - 1) (hd : d < 4503599627370496) (g1 : F + 1 < E + 1023) (g2 : E + 1023 + 1 < F + 2048 - 1) : ∃ G U, U < 4503599627370496 ∧ FP.Core.div FP.Core.b64 (E * 4503599627370496 + T) (F * 4503599627370496 + d) = G * 4503599627370496 + U ∧ E + 1023 - 1 ≤ G + F ∧ G + F ≤ E + 1023 + 1 ∧ (G + F = E + 1023 + 1 → U = 0) ∧ (T < d → G + F ≤ E + 1023 ∧ (G + F = E + 1023 → U = 0)) := by
  unfold FP.Core.div
  rw [fb_dec64 h1 h2 hT, fb_dec64 f1 f2 hd]
  show ∃ G U, U < 4503599627370496 ∧ FP.Core.encode FP.Core.b64 (if 4503599627370496 + d = 0 then (if 4503599627370496 + T = 0 then .nan else .inf (false != false)) else FP.Core.roundRatio FP.Core.b64 (false != false) (4503599627370496 + T) (4503599627370496 + d) ((-1074 + ((E : Int) - 1)) - (-1074 + ((F : Int) - 1)))) = G * 4503599627370496 + U ∧ _
  rw [if_neg (by omega)]
  have lt : (4503599627370496 + T).log2 = 52 := fb_l264 (by omega) (by omega)
  have l2 : (4503599627370496 + d).log2 = 52 := fb_l264 (by omega) (by omega)
  have ld : FP.Core.leading (4503599627370496 + T) (4503599627370496 + d) = if T < d then -1 else 0 := by
    unfold FP.Core.leading
    rw [lt, l2]
    dsimp only
    rw [Int.sub_self]
    show (if (4503599627370496 + d) * 2 ^ 0 ≤ (4503599627370496 + T) * 2 ^ 0 then (0 : Int) else 0 - 1) = _
    by_cases h : T < d
    · rw [if_pos h, if_neg (by omega)]
      rfl
    · rw [if_neg h, if_pos (by omega)]
  -- with the last digit at exponent q
  have key : ∀ (k : Nat) (num den : Nat), 0 < den → 4503599627370496 * den ≤ num → num < 2 * 4503599627370496 * den → 1 ≤ k → k < 2048 - 2 → ∃ G U, U < 4503599627370496 ∧ FP.Core.encode FP.Core.b64 (FP.Core.settle FP.Core.b64 false (FP.Core.nearest num den) (-1074 + ((k : Int) - 1))) = G * 4503599627370496 + U ∧ (G = k ∨ (G = k + 1 ∧ U = 0)) := by
    intro k num den hd0 n1 n2 k1 k2
    have c1 : 4503599627370496 ≤ num / den := (Nat.le_div_iff_mul_le hd0).mpr n1
    have c2 : num / den < 2 * 4503599627370496 := (Nat.div_lt_iff_lt_mul hd0).mpr n2
    have cn : 4503599627370496 ≤ FP.Core.nearest num den ∧ FP.Core.nearest num den ≤ 2 * 4503599627370496 := by
      unfold FP.Core.nearest
      repeat' split
      all_goals omega
    by_cases e : FP.Core.nearest num den < 2 * 4503599627370496
    · refine ⟨k, FP.Core.nearest num den - 4503599627370496, by omega, ?_, Or.inl rfl⟩
      rw [fb_set64 e (by omega), fb_enc64 (E := k) k1 cn.1 (by omega)]
    · refine ⟨k + 1, 0, by decide, ?_, Or.inr ⟨rfl, rfl⟩⟩
      have e2 : FP.Core.nearest num den = 2 * 4503599627370496 := by omega
      unfold FP.Core.settle FP.Core.bound
      rw [e2, fp_p64, fp_qx64, fp_t64, if_neg (by decide), if_pos (by omega), fb_enc64 (E := k + 1) (by omega) (by decide) (by omega)]
  unfold FP.Core.roundRatio
  rw [if_neg (by omega)]
  unfold FP.Core.roundAt FP.Core.quantum
  rw [ld, fp_qn64, fp_pi64]
  show ∃ G U, U < 4503599627370496 ∧ FP.Core.encode _ (FP.Core.settle FP.Core.b64 false _ _) = G * 4503599627370496 + U ∧ _
  unfold FP.Core.unitsNum FP.Core.unitsDen
  by_cases h : T < d
  · rw [if_pos h]
    have q : max (-1074) (-1 + (-1074 + ((E : Int) - 1) - (-1074 + ((F : Int) - 1))) - 52) = -1074 + (((E + 1023 - F - 1 : Nat) : Int) - 1) := by omega
    rw [q]
    have b1 : (-1074 + ((E : Int) - 1) - (-1074 + ((F : Int) - 1)) - (-1074 + (((E + 1023 - F - 1 : Nat) : Int) - 1))).toNat = 52 + 1 := by omega
    have b2 : (-1074 + (((E + 1023 - F - 1 : Nat) : Int) - 1) - (-1074 + ((E : Int) - 1) - (-1074 + ((F : Int) - 1)))).toNat = 0 := by omega
    rw [b1, b2, Nat.pow_zero, Nat.mul_one, show (2 ^ (52 + 1) : Nat) = 2 * 4503599627370496 from by decide]
    obtain ⟨G, U, u, e, r⟩ := key (E + 1023 - F - 1) ((4503599627370496 + T) * (2 * 4503599627370496)) (4503599627370496 + d) (by omega) (by
      rw [Nat.mul_comm (4503599627370496 + T), Nat.mul_comm 2, Nat.mul_assoc]
      exact Nat.mul_le_mul_left _ (by omega)) (by
      rw [Nat.mul_comm (4503599627370496 + T)]
      exact Nat.mul_lt_mul_of_pos_left (by omega) (by decide)) (by omega) (by omega)
    refine ⟨G, U, u, e, ?_⟩
    rcases r with rfl | ⟨rfl, rfl⟩ <;> refine ⟨by omega, by omega, fun _ => by omega, fun _ => ⟨by omega, fun _ => by omega⟩⟩
  · rw [if_neg h]
    have q : max (-1074) (0 + (-1074 + ((E : Int) - 1) - (-1074 + ((F : Int) - 1))) - 52) = -1074 + (((E + 1023 - F : Nat) : Int) - 1) := by omega
    rw [q]
    have b1 : (-1074 + ((E : Int) - 1) - (-1074 + ((F : Int) - 1)) - (-1074 + (((E + 1023 - F : Nat) : Int) - 1))).toNat = 52 := by omega
    have b2 : (-1074 + (((E + 1023 - F : Nat) : Int) - 1) - (-1074 + ((E : Int) - 1) - (-1074 + ((F : Int) - 1)))).toNat = 0 := by omega
    rw [b1, b2, Nat.pow_zero, Nat.mul_one, show (2 ^ 52 : Nat) = 4503599627370496 from by decide]
    obtain ⟨G, U, u, e, r⟩ := key (E + 1023 - F) ((4503599627370496 + T) * 4503599627370496) (4503599627370496 + d) (by omega) (by
      rw [Nat.mul_comm (4503599627370496 + T)]
      exact Nat.mul_le_mul_left _ (by omega)) (by
      rw [Nat.mul_comm (4503599627370496 + T), Nat.mul_comm 2, Nat.mul_assoc]
      exact Nat.mul_lt_mul_of_pos_left (by omega) (by decide)) (by omega) (by omega)
    refine ⟨G, U, u, e, ?_⟩
    rcases r with rfl | ⟨rfl, rfl⟩ <;> refine ⟨by omega, by omega, fun _ => by first | rfl | omega, fun hh => absurd hh h⟩
/-- a number by itself -/
theorem fb_one64 (h1 : 1 ≤ E) (h2 : E < 2048 - 1) (hT : T < 4503599627370496) : FP.Core.div FP.Core.b64 (E * 4503599627370496 + T) (E * 4503599627370496 + T) = 1023 * 4503599627370496 := by
  unfold FP.Core.div
  rw [fb_dec64 h1 h2 hT]
  show FP.Core.encode FP.Core.b64 (if 4503599627370496 + T = 0 then (if 4503599627370496 + T = 0 then .nan else .inf (false != false)) else FP.Core.roundRatio FP.Core.b64 (false != false) (4503599627370496 + T) (4503599627370496 + T) ((-1074 + ((E : Int) - 1)) - (-1074 + ((E : Int) - 1)))) = _
  rw [if_neg (by omega), Int.sub_self]
  have lt : (4503599627370496 + T).log2 = 52 := fb_l264 (by omega) (by omega)
  have ld : FP.Core.leading (4503599627370496 + T) (4503599627370496 + T) = 0 := by
    unfold FP.Core.leading
    dsimp only
    rw [Int.sub_self, if_pos]
    exact Nat.le_refl _
  unfold FP.Core.roundRatio
  rw [if_neg (by omega)]
  unfold FP.Core.roundAt FP.Core.quantum FP.Core.unitsNum FP.Core.unitsDen
  rw [ld, fp_qn64, fp_pi64]
  have q : max (-1074 : Int) (0 + 0 - 52) = -52 := by decide
  rw [q]
  have b1 : ((0 : Int) - -52).toNat = 52 := by decide
  have b2 : ((-52 : Int) - 0).toNat = 0 := by decide
  rw [b1, b2, Nat.pow_zero, Nat.mul_one, Nat.mul_comm, show (2 ^ 52 : Nat) = 4503599627370496 from by decide, fb_near (by omega)]
  decide +kernel
theorem fb_sublt64 (hT : T < 4503599627370496) : FP.Core.sub FP.Core.b64 (1023 * 4503599627370496 + T) (1023 * 4503599627370496) < 9223372036854775808 := by
  rw [fb_sub164 hT]
  by_cases h0 : T = 0
  · subst h0
    decide +kernel
  · obtain ⟨s, s1, s2, s3, -⟩ := fb_ex64 h0 (by omega)
    rw [fb_fill64 s2 s3 (by omega) (by omega), fb_enc64 (E := 1023 - s) (by omega) s2 (by omega)]
    omega
theorem fb_intlt64 (hT : T < 2 * 4503599627370496) : FP.Core.fromInt FP.Core.b64 (T : Int) < 9223372036854775808 := by
  by_cases h0 : T = 0
  · subst h0
    decide +kernel
  · obtain ⟨s, s1, s2, s3, -, e⟩ := fb_int64 h0 hT
    rw [e]
    omega
end FB64
/-! ===== 32: numbers of whole significands; products with powers of two, quotients, differences that are exact ===== -/
section FB32
variable {E F T c d j s : Nat} {e q : Int}
theorem fb_l232 {n m : Nat} (h1 : 2 ^ m ≤ n) (h2 : n < 2 ^ (m + 1)) : n.log2 = m := by
  have h0 : n ≠ 0 := by
    have := Nat.two_pow_pos m
    omega
  exact (Nat.log2_eq_iff h0).mpr ⟨h1, h2⟩
theorem fb_dec32 (h1 : 1 ≤ E) (h2 : E < 256 - 1) (hT : T < 8388608) : FP.Core.decode FP.Core.b32 (E * 8388608 + T) = .fin false (8388608 + T) (-149 + ((E : Int) - 1)) := by
  unfold FP.Core.decode FP.Core.fieldE FP.Core.fieldT FP.Core.fieldS
  rw [fp_x32, fp_t32, fp_qn32]
  have a : (E * 8388608 + T) / 8388608 = E := by omega
  have b : (E * 8388608 + T) % 8388608 = T := by omega
  rw [a, b, Nat.mod_eq_of_lt (show E < 256 by omega), Nat.div_eq_of_lt (show E < 256 by omega), if_neg (by omega), if_neg (by omega)]
  rfl
theorem fb_d032 : FP.Core.decode FP.Core.b32 0 = .fin false 0 (-149) := by decide +kernel
theorem fb_enc32 (h1 : 1 ≤ E) (hc : 8388608 ≤ c) (hq : q = -149 + ((E : Int) - 1)) : FP.Core.encode FP.Core.b32 (.fin false c q) = E * 8388608 + (c - 8388608) := by
  show (if c < FP.Core.b32.tails then FP.Core.assemble FP.Core.b32 false 0 c else FP.Core.assemble FP.Core.b32 false ((q - FP.Core.b32.qmin).toNat + 1) (c - FP.Core.b32.tails)) = _
  unfold FP.Core.assemble
  rw [fp_x32, fp_t32, fp_qn32, if_neg (by omega)]
  have a : (q - (-149)).toNat + 1 = E := by omega
  rw [a]
  show (0 * 256 + E) * 8388608 + (c - 8388608) = _
  rw [Nat.zero_mul, Nat.zero_add]
/-- what is settled -/
theorem fb_set32 (hc : c < 2 * 8388608) (hq : q ≤ 104) : FP.Core.settle FP.Core.b32 false c q = .fin false c q := by
  unfold FP.Core.settle FP.Core.bound
  rw [fp_p32, fp_qx32, if_pos (by omega), if_pos hq]
/-- a significand, moved up by j digits: exact -/
theorem fb_up32 (h1 : 8388608 ≤ c) (h2 : c < 2 * 8388608) (hq1 : -149 ≤ e + j) (hq2 : e + j ≤ 104) : FP.Core.roundRatio FP.Core.b32 false (c * 2 ^ j) 1 e = .fin false c (e + j) := by
  have hj := Nat.two_pow_pos j
  have n0 : c * 2 ^ j ≠ 0 := Nat.mul_ne_zero (by omega) (by omega)
  have l1 : (c * 2 ^ j).log2 = 23 + j := by
    refine fb_l232 ?_ ?_
    · rw [Nat.pow_add]
      exact Nat.mul_le_mul_right _ (by omega)
    · rw [show 23 + j + 1 = (23 + 1) + j by omega, Nat.pow_add]
      exact Nat.mul_lt_mul_of_pos_right (by omega) hj
  have l2 : (1 : Nat).log2 = 0 := by decide +kernel
  have ld : FP.Core.leading (c * 2 ^ j) 1 = ((23 + j : Nat) : Int) := by
    unfold FP.Core.leading
    rw [l1, l2]
    dsimp only
    rw [if_pos]
    · omega
    · have a1 : (((23 + j : Nat) : Int) - ((0 : Nat) : Int)).toNat = 23 + j := by omega
      have a2 : (-(((23 + j : Nat) : Int) - ((0 : Nat) : Int))).toNat = 0 := by omega
      rw [a1, a2, Nat.one_mul, Nat.pow_zero, Nat.mul_one, Nat.pow_add]
      exact Nat.mul_le_mul_right _ (by omega)
  have qu : FP.Core.quantum FP.Core.b32 (c * 2 ^ j) 1 e = e + j := by
    unfold FP.Core.quantum
    rw [ld, fp_qn32, fp_pi32]
    omega
  unfold FP.Core.roundRatio
  rw [if_neg n0, qu]
  unfold FP.Core.roundAt FP.Core.unitsNum FP.Core.unitsDen
  have b1 : (e - (e + j)).toNat = 0 := by omega
  have b2 : (e + j - e).toNat = j := by omega
  rw [b1, b2, Nat.pow_zero, Nat.mul_one, Nat.one_mul, fb_near hj]
  exact fb_set32 h2 hq2
/-- a number of fewer digits, written with all: exact -/
theorem fb_fill32 {n : Nat} (h1 : 8388608 ≤ n * 2 ^ s) (h2 : n * 2 ^ s < 2 * 8388608) (hq1 : -149 ≤ e - s) (hq2 : e - s ≤ 104) : FP.Core.roundRatio FP.Core.b32 false n 1 e = .fin false (n * 2 ^ s) (e - s) := by
  have hs := Nat.two_pow_pos s
  have n0 : n ≠ 0 := fun h => by rw [h, Nat.zero_mul] at h1; omega
  have s52 : s ≤ 23 := by
    apply Classical.byContradiction
    intro h
    have a : 2 ^ (23 + 1) ≤ 2 ^ s := Nat.pow_le_pow_right (by decide) (by omega)
    have b : 1 * 2 ^ s ≤ n * 2 ^ s := Nat.mul_le_mul_right _ (by omega)
    omega
  have e2 : 2 ^ (23 - s) * 2 ^ s = 8388608 := by
    rw [← Nat.pow_add, show 23 - s + s = 23 by omega]
  have l1 : n.log2 = 23 - s := by
    refine fb_l232 ?_ ?_
    · exact Nat.le_of_mul_le_mul_right (by rw [e2]; exact h1) hs
    · refine Nat.lt_of_mul_lt_mul_right (a := 2 ^ s) ?_
      rw [Nat.pow_succ, Nat.mul_right_comm, e2]
      omega
  have l2 : (1 : Nat).log2 = 0 := by decide +kernel
  have ld : FP.Core.leading n 1 = ((23 - s : Nat) : Int) := by
    unfold FP.Core.leading
    rw [l1, l2]
    dsimp only
    rw [if_pos]
    · omega
    · have a1 : (((23 - s : Nat) : Int) - ((0 : Nat) : Int)).toNat = 23 - s := by omega
      have a2 : (-(((23 - s : Nat) : Int) - ((0 : Nat) : Int))).toNat = 0 := by omega
      rw [a1, a2, Nat.one_mul, Nat.pow_zero, Nat.mul_one]
      exact Nat.le_of_mul_le_mul_right (by rw [e2]; exact h1) hs
  have qu : FP.Core.quantum FP.Core.b32 n 1 e = e - s := by
    unfold FP.Core.quantum
    rw [ld, fp_qn32, fp_pi32]
    omega
  unfold FP.Core.roundRatio
  rw [if_neg n0, qu]
  unfold FP.Core.roundAt FP.Core.unitsNum FP.Core.unitsDen
  have b1 : (e - (e - s)).toNat = s := by omega
  have b2 : (e - s - e).toNat = 0 := by omega
  rw [b1, b2, Nat.pow_zero, Nat.mul_one]
  have nn : FP.Core.nearest (n * 2 ^ s) 1 = n * 2 ^ s := by
    have := fb_near (a := n * 2 ^ s) (b := 1) (by decide)
    rw [Nat.mul_one] at this
    exact this
  rw [nn]
  exact fb_set32 h2 hq2
/-- every number has such an s -/
theorem fb_ex32 {n : Nat} (h0 : n ≠ 0) (h : n < 2 * 8388608) : ∃ s, s ≤ 23 ∧ 8388608 ≤ n * 2 ^ s ∧ n * 2 ^ s < 2 * 8388608 ∧ n.log2 + s = 23 := by
  have a := Nat.log2_self_le h0
  have b := @Nat.lt_log2_self n
  have l : n.log2 ≤ 23 := by
    apply Classical.byContradiction
    intro hl
    have : 2 ^ (23 + 1) ≤ 2 ^ n.log2 := Nat.pow_le_pow_right (by decide) (by omega)
    omega
  refine ⟨23 - n.log2, by omega, ?_, ?_, by omega⟩
  · have e : 2 ^ n.log2 * 2 ^ (23 - n.log2) = 8388608 := by rw [← Nat.pow_add, show n.log2 + (23 - n.log2) = 23 by omega]
    have := Nat.mul_le_mul_right (2 ^ (23 - n.log2)) a
    omega
  · have e : 2 ^ (n.log2 + 1) * 2 ^ (23 - n.log2) = 2 * 8388608 := by rw [← Nat.pow_add, show n.log2 + 1 + (23 - n.log2) = 23 + 1 by omega]
    have := Nat.mul_lt_mul_of_pos_right b (Nat.two_pow_pos (23 - n.log2))
    omega
/-- times a power of two -/
theorem fb_mul32 (h1 : 1 ≤ E) (h2 : E < 256 - 1) (hT : T < 8388608) (f1 : 1 ≤ F) (f2 : F < 256 - 1) (g1 : 127 + 1 ≤ E + F) (g2 : E + F < 127 + 256 - 1) : FP.Core.mul FP.Core.b32 (E * 8388608 + T) (F * 8388608) = (E + F - 127) * 8388608 + T := by
  unfold FP.Core.mul
  have d2 := fb_dec32 (T := 0) f1 f2 (by decide)
  rw [Nat.add_zero] at d2
  rw [fb_dec32 h1 h2 hT, d2]
  show FP.Core.encode _ (FP.Core.roundRatio FP.Core.b32 (false != false) ((8388608 + T) * (8388608 + 0)) 1 _) = _
  have := fb_up32 (c := 8388608 + T) (j := 23) (e := (-149 + ((E : Int) - 1)) + (-149 + ((F : Int) - 1))) (by omega) (by omega) (by omega) (by omega)
  rw [show (8388608 + 0) = 2 ^ 23 from by decide]
  show FP.Core.encode _ (FP.Core.roundRatio FP.Core.b32 false ((8388608 + T) * 2 ^ 23) 1 ((-149 + ((E : Int) - 1)) + (-149 + ((F : Int) - 1)))) = _
  rw [this, fb_enc32 (E := E + F - 127) (by omega) (by omega) (by omega)]
  omega
theorem fb_mul032 (f1 : 1 ≤ F) (f2 : F < 256 - 1) : FP.Core.mul FP.Core.b32 0 (F * 8388608) = 0 := by
  unfold FP.Core.mul
  have d2 := fb_dec32 (T := 0) f1 f2 (by decide)
  rw [Nat.add_zero] at d2
  rw [fb_d032, d2]
  show FP.Core.encode FP.Core.b32 (FP.Core.roundRatio FP.Core.b32 (false != false) (0 * (8388608 + 0)) 1 _) = _
  rw [Nat.zero_mul]
  unfold FP.Core.roundRatio
  rw [if_pos rfl, fp_qn32]
  decide +kernel
/-- less one: what stands behind the point -/
theorem fb_sub132 (hT : T < 8388608) : FP.Core.sub FP.Core.b32 (127 * 8388608 + T) (127 * 8388608) = FP.Core.encode FP.Core.b32 (FP.Core.roundRatio FP.Core.b32 false T 1 (-23)) := by
  unfold FP.Core.sub
  have d2 := fb_dec32 (E := 127) (T := 0) (by decide) (by decide) (by decide)
  rw [Nat.add_zero] at d2
  rw [fb_dec32 (by decide) (by decide) hT, d2]
  have ee : (-149 + (((127 : Nat) : Int) - 1)) = (-23 : Int) := by decide
  rw [ee]
  have su : FP.Core.sumUnits false (8388608 + T) (-23) (!false) (8388608 + 0) (-23) (min (-23) (-23)) = (T : Int) := by
    unfold FP.Core.sumUnits FP.Core.inUnits FP.Core.signed
    have z : ((-23 : Int) - min (-23) (-23)).toNat = 0 := by decide
    rw [z, Nat.pow_zero, Nat.mul_one, Nat.mul_one]
    show ((8388608 + T : Nat) : Int) + -((8388608 + 0 : Nat) : Int) = T
    omega
  show FP.Core.encode _ (FP.Core.roundRatio FP.Core.b32 (FP.Core.sumSign false (!false) (FP.Core.sumUnits false (8388608 + T) (-23) (!false) (8388608 + 0) (-23) (min (-23) (-23)))) (FP.Core.sumUnits false (8388608 + T) (-23) (!false) (8388608 + 0) (-23) (min (-23) (-23))).natAbs 1 (min (-23) (-23))) = _
  rw [su]
  have sg : FP.Core.sumSign false (!false) (T : Int) = false := by
    unfold FP.Core.sumSign
    split
    · rfl
    · exact decide_eq_false (by omega)
  rw [sg]
  rfl
/-- that, as a whole number -/
theorem fb_frac32 (hT : T < 8388608) : FP.Core.mul FP.Core.b32 (FP.Core.sub FP.Core.b32 (127 * 8388608 + T) (127 * 8388608)) (150 * 8388608) = FP.Core.fromInt FP.Core.b32 (T : Int) := by
  rw [fb_sub132 hT]
  unfold FP.Core.fromInt FP.Core.ofInt
  have si : decide ((T : Int) < 0) = false := decide_eq_false (by omega)
  rw [si]
  show _ = FP.Core.encode _ (FP.Core.roundRatio FP.Core.b32 false (T : Int).natAbs 1 0)
  rw [Int.natAbs_natCast]
  by_cases h0 : T = 0
  · subst h0
    have z : FP.Core.encode FP.Core.b32 (FP.Core.roundRatio FP.Core.b32 false 0 1 (-23)) = 0 := by decide +kernel
    rw [z, fb_mul032 (by decide) (by decide)]
    decide +kernel
  · obtain ⟨s, s1, s2, s3, -⟩ := fb_ex32 h0 (by omega)
    rw [fb_fill32 s2 s3 (by omega) (by omega), fb_fill32 s2 s3 (by omega) (by omega)]
    rw [fb_enc32 (E := 127 - s) (by omega) s2 (by omega), fb_enc32 (E := 150 - s) (by omega) s2 (by omega)]
    rw [fb_mul32 (by omega) (by omega) (by omega) (by decide) (by decide) (by omega) (by omega)]
    rw [show 127 - s + 150 - 127 = 150 - s by omega]
/-- whole numbers there and back -/
theorem fb_int32 (h0 : T ≠ 0) (hT : T < 2 * 8388608) : ∃ s, s ≤ 23 ∧ 8388608 ≤ T * 2 ^ s ∧ T * 2 ^ s < 2 * 8388608 ∧ T.log2 + s = 23 ∧ FP.Core.fromInt FP.Core.b32 (T : Int) = (150 - s) * 8388608 + (T * 2 ^ s - 8388608) := by
  obtain ⟨s, s1, s2, s3, s4⟩ := fb_ex32 h0 hT
  refine ⟨s, s1, s2, s3, s4, ?_⟩
  unfold FP.Core.fromInt FP.Core.ofInt
  have si : decide ((T : Int) < 0) = false := decide_eq_false (by omega)
  rw [si]
  show FP.Core.encode _ (FP.Core.roundRatio FP.Core.b32 false (T : Int).natAbs 1 0) = _
  rw [Int.natAbs_natCast, fb_fill32 s2 s3 (by omega) (by omega), fb_enc32 (E := 150 - s) (by omega) s2 (by omega)]
theorem fb_toint32 {lo hi : Int} (hT : T < 2 * 8388608) (hl : lo ≤ 0) (hh : (T : Int) ≤ hi) : FP.Core.toInt lo hi (FP.Core.decode FP.Core.b32 (FP.Core.fromInt FP.Core.b32 (T : Int))) = T := by
  by_cases h0 : T = 0
  · subst h0
    have z : FP.Core.fromInt FP.Core.b32 ((0 : Nat) : Int) = 0 := by decide +kernel
    rw [z, fb_d032]
    show max lo (min hi (FP.Core.truncate false 0 (-149))) = _
    have : FP.Core.truncate false 0 (-149) = 0 := by
      unfold FP.Core.truncate FP.Core.signed
      rw [Nat.zero_mul, Nat.zero_div]
      rfl
    rw [this]
    omega
  · obtain ⟨s, s1, s2, s3, -, e⟩ := fb_int32 h0 hT
    rw [e, fb_dec32 (by omega) (by omega) (by omega)]
    show max lo (min hi (FP.Core.truncate false (8388608 + (T * 2 ^ s - 8388608)) (-149 + (((150 - s : Nat) : Int) - 1)))) = _
    have tr : FP.Core.truncate false (8388608 + (T * 2 ^ s - 8388608)) (-149 + (((150 - s : Nat) : Int) - 1)) = T := by
      unfold FP.Core.truncate FP.Core.signed
      have a1 : (-149 + (((150 - s : Nat) : Int) - 1)).toNat = 0 := by omega
      have a2 : (-(-149 + (((150 - s : Nat) : Int) - 1))).toNat = s := by omega
      rw [a1, a2, Nat.pow_zero, Nat.mul_one, show 8388608 + (T * 2 ^ s - 8388608) = T * 2 ^ s by omega, Nat.mul_div_cancel _ (Nat.two_pow_pos s)]
      rfl
    rw [tr]
    omega
/-- the order of such numbers -/
theorem fb_cmp32 (h1 : 1 ≤ E) (h2 : E < 256 - 1) (hT : T < 8388608) (f1 : 1 ≤ F) (f2 : F < 256 - 1) : (E < F → FP.Core.cmp FP.Core.b32 (E * 8388608 + T) (F * 8388608) = some .lt) ∧ (F ≤ E → FP.Core.cmp FP.Core.b32 (E * 8388608 + T) (F * 8388608) = some .eq ∨ FP.Core.cmp FP.Core.b32 (E * 8388608 + T) (F * 8388608) = some .gt) := by
  have d2 := fb_dec32 (T := 0) f1 f2 (by decide)
  rw [Nat.add_zero, Nat.add_zero] at d2
  unfold FP.Core.cmp
  rw [fb_dec32 h1 h2 hT, d2]
  show (E < F → some (compare (FP.Core.signed false (FP.Core.inUnits (8388608 + T) (-149 + ((E : Int) - 1)) (min (-149 + ((E : Int) - 1)) (-149 + ((F : Int) - 1))))) (FP.Core.signed false (FP.Core.inUnits 8388608 (-149 + ((F : Int) - 1)) (min (-149 + ((E : Int) - 1)) (-149 + ((F : Int) - 1)))))) = some .lt) ∧ (F ≤ E → some (compare (FP.Core.signed false (FP.Core.inUnits (8388608 + T) (-149 + ((E : Int) - 1)) (min (-149 + ((E : Int) - 1)) (-149 + ((F : Int) - 1))))) (FP.Core.signed false (FP.Core.inUnits 8388608 (-149 + ((F : Int) - 1)) (min (-149 + ((E : Int) - 1)) (-149 + ((F : Int) - 1)))))) = some .eq ∨ some (compare (FP.Core.signed false (FP.Core.inUnits (8388608 + T) (-149 + ((E : Int) - 1)) (min (-149 + ((E : Int) - 1)) (-149 + ((F : Int) - 1))))) (FP.Core.signed false (FP.Core.inUnits 8388608 (-149 + ((F : Int) - 1)) (min (-149 + ((E : Int) - 1)) (-149 + ((F : Int) - 1)))))) = some .gt)
  unfold FP.Core.inUnits FP.Core.signed
  refine ⟨fun h => ?_, fun h => ?_⟩
  · have a1 : (-149 + ((E : Int) - 1) - min (-149 + ((E : Int) - 1)) (-149 + ((F : Int) - 1))).toNat = 0 := by omega
    have a2 : (-149 + ((F : Int) - 1) - min (-149 + ((E : Int) - 1)) (-149 + ((F : Int) - 1))).toNat = (F - E - 1) + 1 := by omega
    have b := Nat.two_pow_pos (F - E - 1)
    have lt : (8388608 + T) * 2 ^ 0 < 8388608 * 2 ^ ((F - E - 1) + 1) := by
      rw [Nat.pow_zero, Nat.mul_one, Nat.pow_succ]
      have : 8388608 * 1 ≤ 8388608 * 2 ^ (F - E - 1) := Nat.mul_le_mul_left _ b
      omega
    rw [a1, a2]
    show some (compareOfLessAndEq _ _) = _
    unfold compareOfLessAndEq
    rw [if_pos (by simp only [Bool.false_eq_true, if_false]; omega)]
  · have a1 : (-149 + ((E : Int) - 1) - min (-149 + ((E : Int) - 1)) (-149 + ((F : Int) - 1))).toNat = E - F := by omega
    have a2 : (-149 + ((F : Int) - 1) - min (-149 + ((E : Int) - 1)) (-149 + ((F : Int) - 1))).toNat = 0 := by omega
    have b := Nat.two_pow_pos (E - F)
    have le : 8388608 * 2 ^ 0 ≤ (8388608 + T) * 2 ^ (E - F) := by
      rw [Nat.pow_zero, Nat.mul_one]
      have : (8388608 + T) * 1 ≤ (8388608 + T) * 2 ^ (E - F) := Nat.mul_le_mul_left _ b
      omega
    rw [a1, a2]
    simp only [Bool.false_eq_true, if_false]
    show some (compareOfLessAndEq _ _) = _ ∨ some (compareOfLessAndEq _ _) = _
    unfold compareOfLessAndEq
    rw [if_neg (by omega)]
    by_cases e : (((8388608 + T) * 2 ^ (E - F) : Nat) : Int) = ((8388608 * 2 ^ 0 : Nat) : Int)
    · rw [if_pos e]
      exact Or.inl rfl
    · rw [if_neg e]
      exact Or.inr rfl
/-- above nothing -/
theorem fb_pos32 (h1 : 1 ≤ E) (h2 : E < 256 - 1) (hT : T < 8388608) : FP.Core.cmp FP.Core.b32 (E * 8388608 + T) 0 = some .gt := by
  unfold FP.Core.cmp
  rw [fb_dec32 h1 h2 hT, fb_d032]
  show some (compareOfLessAndEq (((8388608 + T) * 2 ^ (-149 + ((E : Int) - 1) - min (-149 + ((E : Int) - 1)) (-149)).toNat : Nat) : Int) ((0 * 2 ^ ((-149 : Int) - min (-149 + ((E : Int) - 1)) (-149)).toNat : Nat) : Int)) = _
  have b := Nat.two_pow_pos (-149 + ((E : Int) - 1) - min (-149 + ((E : Int) - 1)) (-149)).toNat
  have : (8388608 + T) * 1 ≤ (8388608 + T) * 2 ^ (-149 + ((E : Int) - 1) - min (-149 + ((E : Int) - 1)) (-149)).toNat := Nat.mul_le_mul_left _ b
  rw [Nat.zero_mul]
  unfold compareOfLessAndEq
  rw [if_neg (by omega), if_neg (by omega)]
theorem fb_zero32 : FP.Core.cmp FP.Core.b32 0 0 = some .eq := by decide +kernel
/-- by a power of two -/
theorem fb_half32 (h1 : 1 ≤ E) (h2 : E < 256 - 1) (hT : T < 8388608) (f1 : 1 ≤ F) (f2 : F < 256 - 1) (g1 : F < E + 127) (g2 : E + 127 < F + 256 - 1) : FP.Core.div FP.Core.b32 (E * 8388608 + T) (F * 8388608) = (E + 127 - F) * 8388608 + T := by
  unfold FP.Core.div
  have d2 := fb_dec32 (T := 0) f1 f2 (by decide)
  rw [Nat.add_zero, Nat.add_zero] at d2
  rw [fb_dec32 h1 h2 hT, d2]
  show FP.Core.encode FP.Core.b32 (if 8388608 = 0 then (if 8388608 + T = 0 then .nan else .inf (false != false)) else FP.Core.roundRatio FP.Core.b32 (false != false) (8388608 + T) 8388608 ((-149 + ((E : Int) - 1)) - (-149 + ((F : Int) - 1)))) = _
  rw [if_neg (by decide)]
  have lt : (8388608 + T).log2 = 23 := fb_l232 (by omega) (by omega)
  have l2 : (8388608 : Nat).log2 = 23 := by decide +kernel
  have ld : FP.Core.leading (8388608 + T) 8388608 = 0 := by
    unfold FP.Core.leading
    rw [lt, l2]
    dsimp only
    rw [Int.sub_self, if_pos]
    show 8388608 * 2 ^ 0 ≤ (8388608 + T) * 2 ^ 0
    omega
  unfold FP.Core.roundRatio
  rw [if_neg (by omega)]
  have qu : FP.Core.quantum FP.Core.b32 (8388608 + T) 8388608 (-149 + ((E : Int) - 1) - (-149 + ((F : Int) - 1))) = (E : Int) - F - 23 := by
    unfold FP.Core.quantum
    rw [ld, fp_qn32, fp_pi32]
    omega
  rw [qu]
  unfold FP.Core.roundAt FP.Core.unitsNum FP.Core.unitsDen
  have b1 : (-149 + ((E : Int) - 1) - (-149 + ((F : Int) - 1)) - ((E : Int) - F - 23)).toNat = 23 := by omega
  have b2 : ((E : Int) - F - 23 - (-149 + ((E : Int) - 1) - (-149 + ((F : Int) - 1)))).toNat = 0 := by omega
  rw [b1, b2, Nat.pow_zero, Nat.mul_one, show (2 ^ 23 : Nat) = 8388608 from by decide, fb_near (by decide)]
  show FP.Core.encode _ (FP.Core.settle FP.Core.b32 false (8388608 + T) _) = _
  rw [fb_set32 (by omega) (by omega), fb_enc32 (E := E + 127 - F) (by omega) (by omega) (by omega)]
  omega
/-- a quotient of such numbers that is at most one -/
theorem fb_quo32 (h1 : 1 ≤ E) (h2 : E < 256 - 1) (hT : T < 8388608) (f1 : 1 ≤ F) (f2 : F < 256 - 1) (hd : d < 8388608) (g1 : F + 1 < E + 127) (g2 : E + 127 + 1 < F + 256 - 1) : ∃ G U, U < 8388608 ∧ FP.Core.div FP.Core.b32 (E * 8388608 + T) (F * 8388608 + d) = G * 8388608 + U ∧ E + 127 - 1 ≤ G + F ∧ G + F ≤ E + 127 + 1 ∧ (G + F = E + 127 + 1 → U = 0) ∧ (T < d → G + F ≤ E + 127 ∧ (G + F = E + 127 → U = 0)) := by
  unfold FP.Core.div
  rw [fb_dec32 h1 h2 hT, fb_dec32 f1 f2 hd]
  show ∃ G U, U < 8388608 ∧ FP.Core.encode FP.Core.b32 (if 8388608 + d = 0 then (if 8388608 + T = 0 then .nan else .inf (false != false)) else FP.Core.roundRatio FP.Core.b32 (false != false) (8388608 + T) (8388608 + d) ((-149 + ((E : Int) - 1)) - (-149 + ((F : Int) - 1)))) = G * 8388608 + U ∧ _
  rw [if_neg (by omega)]
  have lt : (8388608 + T).log2 = 23 := fb_l232 (by omega) (by omega)
  have l2 : (8388608 + d).log2 = 23 := fb_l232 (by omega) (by omega)
  have ld : FP.Core.leading (8388608 + T) (8388608 + d) = if T < d then -1 else 0 := by
    unfold FP.Core.leading
    rw [lt, l2]
    dsimp only
    rw [Int.sub_self]
    show (if (8388608 + d) * 2 ^ 0 ≤ (8388608 + T) * 2 ^ 0 then (0 : Int) else 0 - 1) = _
    by_cases h : T < d
    · rw [if_pos h, if_neg (by omega)]
      rfl
    · rw [if_neg h, if_pos (by omega)]
  -- with the last digit at exponent q
  have key : ∀ (k : Nat) (num den : Nat), 0 < den → 8388608 * den ≤ num → num < 2 * 8388608 * den → 1 ≤ k → k < 256 - 2 → ∃ G U, U < 8388608 ∧ FP.Core.encode FP.Core.b32 (FP.Core.settle FP.Core.b32 false (FP.Core.nearest num den) (-149 + ((k : Int) - 1))) = G * 8388608 + U ∧ (G = k ∨ (G = k + 1 ∧ U = 0)) := by
    intro k num den hd0 n1 n2 k1 k2
    have c1 : 8388608 ≤ num / den := (Nat.le_div_iff_mul_le hd0).mpr n1
    have c2 : num / den < 2 * 8388608 := (Nat.div_lt_iff_lt_mul hd0).mpr n2
    have cn : 8388608 ≤ FP.Core.nearest num den ∧ FP.Core.nearest num den ≤ 2 * 8388608 := by
      unfold FP.Core.nearest
      repeat' split
      all_goals omega
    by_cases e : FP.Core.nearest num den < 2 * 8388608
    · refine ⟨k, FP.Core.nearest num den - 8388608, by omega, ?_, Or.inl rfl⟩
      rw [fb_set32 e (by omega), fb_enc32 (E := k) k1 cn.1 (by omega)]
    · refine ⟨k + 1, 0, by decide, ?_, Or.inr ⟨rfl, rfl⟩⟩
      have e2 : FP.Core.nearest num den = 2 * 8388608 := by omega
      unfold FP.Core.settle FP.Core.bound
      rw [e2, fp_p32, fp_qx32, fp_t32, if_neg (by decide), if_pos (by omega), fb_enc32 (E := k + 1) (by omega) (by decide) (by omega)]
  unfold FP.Core.roundRatio
  rw [if_neg (by omega)]
  unfold FP.Core.roundAt FP.Core.quantum
  rw [ld, fp_qn32, fp_pi32]
  show ∃ G U, U < 8388608 ∧ FP.Core.encode _ (FP.Core.settle FP.Core.b32 false _ _) = G * 8388608 + U ∧ _
  unfold FP.Core.unitsNum FP.Core.unitsDen
  by_cases h : T < d
  · rw [if_pos h]
    have q : max (-149) (-1 + (-149 + ((E : Int) - 1) - (-149 + ((F : Int) - 1))) - 23) = -149 + (((E + 127 - F - 1 : Nat) : Int) - 1) := by omega
    rw [q]
    have b1 : (-149 + ((E : Int) - 1) - (-149 + ((F : Int) - 1)) - (-149 + (((E + 127 - F - 1 : Nat) : Int) - 1))).toNat = 23 + 1 := by omega
    have b2 : (-149 + (((E + 127 - F - 1 : Nat) : Int) - 1) - (-149 + ((E : Int) - 1) - (-149 + ((F : Int) - 1)))).toNat = 0 := by omega
    rw [b1, b2, Nat.pow_zero, Nat.mul_one, show (2 ^ (23 + 1) : Nat) = 2 * 8388608 from by decide]
    obtain ⟨G, U, u, e, r⟩ := key (E + 127 - F - 1) ((8388608 + T) * (2 * 8388608)) (8388608 + d) (by omega) (by
      rw [Nat.mul_comm (8388608 + T), Nat.mul_comm 2, Nat.mul_assoc]
      exact Nat.mul_le_mul_left _ (by omega)) (by
      rw [Nat.mul_comm (8388608 + T)]
      exact Nat.mul_lt_mul_of_pos_left (by omega) (by decide)) (by omega) (by omega)
    refine ⟨G, U, u, e, ?_⟩
    rcases r with rfl | ⟨rfl, rfl⟩ <;> refine ⟨by omega, by omega, fun _ => by omega, fun _ => ⟨by omega, fun _ => by omega⟩⟩
  · rw [if_neg h]
    have q : max (-149) (0 + (-149 + ((E : Int) - 1) - (-149 + ((F : Int) - 1))) - 23) = -149 + (((E + 127 - F : Nat) : Int) - 1) := by omega
    rw [q]
    have b1 : (-149 + ((E : Int) - 1) - (-149 + ((F : Int) - 1)) - (-149 + (((E + 127 - F : Nat) : Int) - 1))).toNat = 23 := by omega
    have b2 : (-149 + (((E + 127 - F : Nat) : Int) - 1) - (-149 + ((E : Int) - 1) - (-149 + ((F : Int) - 1)))).toNat = 0 := by omega
    rw [b1, b2, Nat.pow_zero, Nat.mul_one, show (2 ^ 23 : Nat) = 8388608 from by decide]
    obtain ⟨G, U, u, e, r⟩ := key (E + 127 - F) ((8388608 + T) * 8388608) (8388608 + d) (by omega) (by
      rw [Nat.mul_comm (8388608 + T)]
      exact Nat.mul_le_mul_left _ (by omega)) (by
      rw [Nat.mul_comm (8388608 + T), Nat.mul_comm 2, Nat.mul_assoc]
      exact Nat.mul_lt_mul_of_pos_left (by omega) (by decide)) (by omega) (by omega)
    refine ⟨G, U, u, e, ?_⟩
    rcases r with rfl | ⟨rfl, rfl⟩ <;> refine ⟨by omega, by omega, fun _ => by first | rfl | omega, fun hh => absurd hh h⟩
/-- a number by itself -/
theorem fb_one32 (h1 : 1 ≤ E) (h2 : E < 256 - 1) (hT : T < 8388608) : FP.Core.div FP.Core.b32 (E * 8388608 + T) (E * 8388608 + T) = 127 * 8388608 := by
  unfold FP.Core.div
  rw [fb_dec32 h1 h2 hT]
  show FP.Core.encode FP.Core.b32 (if 8388608 + T = 0 then (if 8388608 + T = 0 then .nan else .inf (false != false)) else FP.Core.roundRatio FP.Core.b32 (false != false) (8388608 + T) (8388608 + T) ((-149 + ((E : Int) - 1)) - (-149 + ((E : Int) - 1)))) = _
  rw [if_neg (by omega), Int.sub_self]
  have lt : (8388608 + T).log2 = 23 := fb_l232 (by omega) (by omega)
  have ld : FP.Core.leading (8388608 + T) (8388608 + T) = 0 := by
    unfold FP.Core.leading
    dsimp only
    rw [Int.sub_self, if_pos]
    exact Nat.le_refl _
  unfold FP.Core.roundRatio
  rw [if_neg (by omega)]
  unfold FP.Core.roundAt FP.Core.quantum FP.Core.unitsNum FP.Core.unitsDen
  rw [ld, fp_qn32, fp_pi32]
  have q : max (-149 : Int) (0 + 0 - 23) = -23 := by decide
  rw [q]
  have b1 : ((0 : Int) - -23).toNat = 23 := by decide
  have b2 : ((-23 : Int) - 0).toNat = 0 := by decide
  rw [b1, b2, Nat.pow_zero, Nat.mul_one, Nat.mul_comm, show (2 ^ 23 : Nat) = 8388608 from by decide, fb_near (by omega)]
  decide +kernel
theorem fb_sublt32 (hT : T < 8388608) : FP.Core.sub FP.Core.b32 (127 * 8388608 + T) (127 * 8388608) < 2147483648 := by
  rw [fb_sub132 hT]
  by_cases h0 : T = 0
  · subst h0
    decide +kernel
  · obtain ⟨s, s1, s2, s3, -⟩ := fb_ex32 h0 (by omega)
    rw [fb_fill32 s2 s3 (by omega) (by omega), fb_enc32 (E := 127 - s) (by omega) s2 (by omega)]
    omega
theorem fb_intlt32 (hT : T < 2 * 8388608) : FP.Core.fromInt FP.Core.b32 (T : Int) < 2147483648 := by
  by_cases h0 : T = 0
  · subst h0
    decide +kernel
  · obtain ⟨s, s1, s2, s3, -, e⟩ := fb_int32 h0 hT
    rw [e]
    omega
end FB32

end
section
/-! ===== a float's bits, taken apart by hand: they are the bits ===== -/
section FFF
variable {L : Nat} {xs : Nat → Int32} {m : fl_M} {Q : Option fl_V → fl_M → Prop} {E T n d : Nat}
theorem fg_un (h : n < 4294967296) : (UInt32.ofNat n).toNat = n := Nat.mod_eq_of_lt h
theorem fg_one : (0x3f800000 : UInt32).toNat = 127 * 8388608 := by decide +kernel
theorem fg_two : (0x40000000 : UInt32).toNat = 128 * 8388608 := by decide +kernel
theorem fg_big : (0x4b000000 : UInt32).toNat = 150 * 8388608 := by decide +kernel
theorem fg_nn {x : UInt32} (h : x.toNat % 2147483648 ≤ 2139095040) : vf_n32 x := by
  show x &&& 0x7fffffff ≤ 0x7f800000
  have c1 : (0x7fffffff : UInt32).toNat = 2 ^ 31 - 1 := by decide +kernel
  have c2 : (0x7f800000 : UInt32).toNat = 2139095040 := by decide +kernel
  have p : (2 : Nat) ^ 31 = 2147483648 := by decide +kernel
  rw [UInt32.le_iff_toNat_le, UInt32.toNat_and, c1, c2, Nat.and_two_pow_sub_one_eq_mod, p]
  exact h
theorem fg_lt1 (h1 : 1 ≤ E) (h2 : E < 127) (hT : T < 8388608) : FP.fcmp (UInt32.ofNat (E * 8388608 + T)) 0x3f800000 = some .lt := by
  show FP.Core.cmp FP.Core.b32 _ _ = _
  rw [fg_un (by omega), fg_one]
  exact (fb_cmp32 h1 (by omega) hT (by decide) (by decide)).1 h2
theorem fg_ge1 (h1 : 127 ≤ E) (h2 : E < 255) (hT : T < 8388608) : FP.fcmp (UInt32.ofNat (E * 8388608 + T)) 0x3f800000 = some .eq ∨ FP.fcmp (UInt32.ofNat (E * 8388608 + T)) 0x3f800000 = some .gt := by
  show FP.Core.cmp FP.Core.b32 _ _ = _ ∨ FP.Core.cmp FP.Core.b32 _ _ = _
  rw [fg_un (by omega), fg_one]
  exact (fb_cmp32 (by omega) (by omega) hT (by decide) (by decide)).2 h1
theorem fg_lt2 (hT : T < 8388608) : FP.fcmp (UInt32.ofNat (127 * 8388608 + T)) 0x40000000 = some .lt := by
  show FP.Core.cmp FP.Core.b32 _ _ = _
  rw [fg_un (by omega), fg_two]
  exact (fb_cmp32 (by decide) (by decide) hT (by decide) (by decide)).1 (by decide)
theorem fg_ge2 (h1 : 128 ≤ E) (h2 : E < 255) (hT : T < 8388608) : FP.fcmp (UInt32.ofNat (E * 8388608 + T)) 0x40000000 = some .eq ∨ FP.fcmp (UInt32.ofNat (E * 8388608 + T)) 0x40000000 = some .gt := by
  show FP.Core.cmp FP.Core.b32 _ _ = _ ∨ FP.Core.cmp FP.Core.b32 _ _ = _
  rw [fg_un (by omega), fg_two]
  exact (fb_cmp32 (by omega) (by omega) hT (by decide) (by decide)).2 h1
theorem fg_gt0 (h1 : 1 ≤ E) (h2 : E < 255) (hT : T < 8388608) : FP.fcmp (UInt32.ofNat (E * 8388608 + T)) 0 = some .gt := by
  show FP.Core.cmp FP.Core.b32 _ _ = _
  rw [fg_un (by omega)]
  exact fb_pos32 h1 (by omega) hT
theorem fg_dbl (h1 : 1 ≤ E) (h2 : E < 127) (hT : T < 8388608) : FP.fmul (UInt32.ofNat (E * 8388608 + T)) 0x40000000 = UInt32.ofNat ((E + 1) * 8388608 + T) := by
  show UInt32.ofNat (FP.Core.mul FP.Core.b32 _ _) = _
  rw [fg_un (by omega), fg_two, fb_mul32 h1 (by omega) hT (by decide) (by decide) (by omega) (by omega), show E + 128 - 127 = E + 1 by omega]
theorem fg_half (h1 : 127 ≤ E) (h2 : E < 253) (hT : T < 8388608) : FP.fdiv (UInt32.ofNat ((E + 1) * 8388608 + T)) 0x40000000 = UInt32.ofNat (E * 8388608 + T) := by
  show UInt32.ofNat (FP.Core.div FP.Core.b32 _ _) = _
  rw [fg_un (by omega), fg_two, fb_half32 (by omega) (by omega) hT (by decide) (by decide) (by omega) (by omega)]
  rw [show E + 1 + 127 - 128 = E by omega]
theorem fg_frac (hT : T < 8388608) : FP.fmul (FP.fsub (UInt32.ofNat (127 * 8388608 + T)) 0x3f800000) 0x4b000000 = UInt32.ofNat (FP.Core.fromInt FP.Core.b32 (T : Int)) := by
  show UInt32.ofNat (FP.Core.mul FP.Core.b32 (UInt32.ofNat (FP.Core.sub FP.Core.b32 _ _)).toNat _) = _
  rw [fg_un (n := 127 * 8388608 + T) (by omega), fg_one, fg_un (Nat.lt_trans (fb_sublt32 hT) (by decide)), fg_big, fb_frac32 hT]
theorem fg_f2i (hT : T < 8388608) : FP.f2i (UInt32.ofNat (FP.Core.fromInt FP.Core.b32 (T : Int))) = Int32.ofNat T := by
  show Int32.ofInt (FP.Core.toInt (-2 ^ 31) (2 ^ 31 - 1) (FP.Core.decode FP.Core.b32 _)) = _
  have p : (2 : Int) ^ 31 = 2147483648 := by decide
  rw [fg_un (Nat.lt_trans (fb_intlt32 (by omega)) (by decide)), fb_toint32 (by omega) (by decide) (by omega)]
  exact Int32.ofInt_eq_ofNat
theorem fg_shl : (List.range 256).all (fun e => decide ((Int32.ofNat e) <<< ((23 : Int32) &&& 31) = Int32.ofNat (e * 8388608))) = true := by decide +kernel
theorem fg_bits (h : E < 256) : ((Int32.ofNat E) <<< ((23 : Int32) &&& 31)) + Int32.ofNat T = (UInt32.ofNat (E * 8388608 + T)).toInt32 := by
  rw [of_decide_eq_true (List.all_eq_true.mp fg_shl E (List.mem_range.mpr h)), ← Int32.ofNat_add]
  rfl
theorem fg_328 {b : UInt32} (hb : (Op.cmpValue (FP.fcmp b b) .l).toInt = 0) (k : Q (some (.inl (0 : Int32))) m) : fl_Tq (pw_P L xs) 328 0 (fl_args (am_mxl (pw_P L xs) 328) [fl_f b]) [] m Q := by
  refine fl_Tq.dld (i := 0) (w := 2) (n := 1) (v := fl_f b) rfl rfl rfl (fun _ _ _ => rfl) rfl ?_
  refine fl_Tq.dld (i := 0) (w := 2) (n := 1) (v := fl_f b) rfl rfl rfl (fun _ _ _ => rfl) rfl ?_
  refine fl_Tq.bi (u := .inl (Op.cmpValue (FP.fcmp b b) .l)) rfl rfl rfl (fun _ _ _ => rfl) ?_
  refine fl_Tq.zt rfl (fl_bo rfl) (by rw [at_c1]; exact decide_eq_true hb) rfl ?_
  refine fl_Tq.stp rfl rfl (fl_bo rfl) rfl ?_
  exact fl_Tq.ret rfl rfl rfl k
theorem fg_329 {b : UInt32} (hb : (Op.cmpValue (FP.fcmp b b) .l).toInt = 0) (k : Q (some (.inl b.toInt32)) m) : fl_Tq (pw_P L xs) 329 0 (fl_args (am_mxl (pw_P L xs) 329) [fl_f b]) [] m Q := by
  refine fl_Tq.dld (i := 0) (w := 2) (n := 1) (v := fl_f b) rfl rfl rfl (fun _ _ _ => rfl) rfl ?_
  refine fl_Tq.cal rfl rfl (fl_bo rfl) rfl ?_
  refine fg_328 hb ?_
  refine fl_Tq.zf rfl (fl_bo rfl) (by decide +kernel) rfl ?_
  refine fl_Tq.dld (i := 0) (w := 2) (n := 1) (v := fl_f b) rfl rfl rfl (fun _ _ _ => rfl) rfl ?_
  refine fl_Tq.gen (st' := [.inl b.toInt32]) rfl rfl rfl (fun la hl => ⟨la, rfl, hl⟩) ?_
  exact fl_Tq.ret rfl rfl rfl k
theorem fg_self (h1 : 1 ≤ E) (h2 : E < 255) (hT : T < 8388608) : (Op.cmpValue (FP.fcmp (UInt32.ofNat (E * 8388608 + T)) (UInt32.ofNat (E * 8388608 + T))) .l).toInt = 0 := by
  have e : FP.fcmp (UInt32.ofNat (E * 8388608 + T)) (UInt32.ofNat (E * 8388608 + T)) = some .eq := by
    show FP.Core.cmp FP.Core.b32 _ _ = _
    rw [fg_un (by omega)]
    unfold FP.Core.cmp
    rw [fb_dec32 h1 (by omega) hT]
    show some (compareOfLessAndEq _ _) = _
    unfold compareOfLessAndEq
    rw [if_neg (Int.lt_irrefl _), if_pos rfl]
  rw [e]
  decide +kernel
/-- bitsOfFloat -/
theorem fg_182 (h1 : 97 ≤ E) (h2 : E ≤ 157) (hT : T < 8388608) (k : Q (some (.inl (UInt32.ofNat (E * 8388608 + T)).toInt32)) m) : fl_Tq (pw_P L xs) 182 0 (fl_args (am_mxl (pw_P L xs) 182) [fl_f (UInt32.ofNat (E * 8388608 + T))]) [] m Q := by
  have nn : ∀ G : Nat, G < 255 → vf_n32 (UInt32.ofNat (G * 8388608 + T)) := fun G hG => fg_nn (by rw [fg_un (by omega)]; omega)
  have cm1 : (Int32.ofInt (-1)).toInt = -1 := by decide +kernel
  have c1 : (Int32.ofInt 1).toInt = 1 := by decide +kernel
  have tail : ∀ (e i : Int32), e.toInt = (E : Int) - 127 → fl_Tq (pw_P L xs) 182 66 [some (fl_f (UInt32.ofNat (E * 8388608 + T))), some (.inl e), some (fl_f (UInt32.ofNat (127 * 8388608 + T))), some (.inl i)] [] m Q := by
    intro e i he
    refine fl_Tq.dld (i := 2) (w := 2) (n := 1) (v := fl_f (UInt32.ofNat (127 * 8388608 + T))) rfl rfl rfl (fun _ _ _ => rfl) rfl ?_
    refine fl_Tq.psh (n := 1) (v := fl_f 0x3f800000) rfl rfl rfl (fun _ _ _ => rfl) ?_
    have n1 : vf_n32 (FP.fsub (UInt32.ofNat (127 * 8388608 + T)) 0x3f800000) := fp_sub32 (nn 127 (by decide)) (by decide) (by decide)
    refine fl_Tq.bi (u := fl_f (FP.fsub (UInt32.ofNat (127 * 8388608 + T)) 0x3f800000)) rfl rfl rfl (fl_fbin (fun _ _ _ => rfl) n1) ?_
    refine fl_Tq.psh (n := 3) (v := fl_f 0x4b000000) rfl rfl rfl (fun _ _ _ => rfl) ?_
    have n2 : vf_n32 (FP.fmul (FP.fsub (UInt32.ofNat (127 * 8388608 + T)) 0x3f800000) 0x4b000000) := fp_mul32 n1 (by decide) (by decide)
    refine fl_Tq.bi (u := fl_f (FP.fmul (FP.fsub (UInt32.ofNat (127 * 8388608 + T)) 0x3f800000) 0x4b000000)) rfl rfl rfl (fl_fbin (fun _ _ _ => rfl) n2) ?_
    rw [fg_frac hT]
    refine fl_Tq.un (w := .inl (Int32.ofNat T)) rfl rfl rfl (fun _ _ _ => by rw [← fg_f2i hT]; rfl) ?_
    refine fl_Tq.stp rfl rfl (fl_bo rfl) rfl ?_
    refine fl_Tq.stp rfl rfl (fl_bo rfl) rfl ?_
    refine fl_Tq.stp rfl rfl (fl_bo rfl) rfl ?_
    refine fl_Tq.stp rfl rfl (fl_bo rfl) rfl ?_
    refine fl_Tq.stp rfl rfl (fl_bo rfl) rfl ?_
    refine fl_Tq.stp rfl rfl (fl_bo rfl) rfl ?_
    refine fl_Tq.stp rfl rfl (fl_bo rfl) rfl ?_
    refine fl_Tq.stp rfl rfl (fl_bo rfl) rfl ?_
    refine fl_Tq.ret rfl rfl rfl ?_
    have e1 : (127 : Int32) + e = Int32.ofNat E := by
      have c : (127 : Int32).toInt = 127 := by decide +kernel
      apply Int32.toInt.inj
      rw [at_add32 (by omega) (by omega), at_ofN (by omega), c]
      omega
    rw [← fg_bits (by omega), ← e1] at k
    exact k
  have down : ∀ (d n : Nat) (e : Int32), n + d ≤ 32 → e.toInt + d = (E : Int) - 127 → fl_Tq (pw_P L xs) 182 41 [some (fl_f (UInt32.ofNat (E * 8388608 + T))), some (.inl e), some (fl_f (UInt32.ofNat ((127 + d) * 8388608 + T))), some (.inl (Int32.ofNat n))] [] m Q := by
    intro d
    induction d with
    | zero =>
      intro n e hn he
      have en := at_ofN (k := n) (by omega)
      rw [Nat.add_zero]
      refine fl_Tq.stp rfl rfl (fl_bo rfl) rfl ?_
      refine fl_Tq.stp rfl rfl (fl_bo rfl) rfl ?_
      by_cases h32 : n < 32
      · refine fl_Tq.jf rfl (fl_bo rfl) ?_ rfl ?_
        · rw [at_c2, en]
          exact decide_eq_false (by show ¬ (0 ≤ (n : Int) - (32 : Int)); omega)
        refine fl_Tq.dld (i := 2) (w := 2) (n := 1) (v := fl_f (UInt32.ofNat (127 * 8388608 + T))) rfl rfl rfl (fun _ _ _ => rfl) rfl ?_
        refine fl_Tq.psh (n := 1) (v := fl_f 0x40000000) rfl rfl rfl (fun _ _ _ => rfl) ?_
        refine fl_Tq.bi (u := .inl (Op.cmpValue (FP.fcmp (UInt32.ofNat (127 * 8388608 + T)) 0x40000000) .l)) rfl rfl rfl (fun _ _ _ => rfl) ?_
        rw [fg_lt2 hT]
        refine fl_Tq.zt rfl (fl_bo rfl) (by decide +kernel) rfl ?_
        exact tail e _ (by omega)
      · refine fl_Tq.jt rfl (fl_bo rfl) ?_ rfl ?_
        · rw [at_c2, en]
          exact decide_eq_true (by show (0 ≤ (n : Int) - (32 : Int)); omega)
        exact tail e _ (by omega)
    | succ d ih =>
      intro n e hn he
      have en := at_ofN (k := n) (by omega)
      refine fl_Tq.stp rfl rfl (fl_bo rfl) rfl ?_
      refine fl_Tq.stp rfl rfl (fl_bo rfl) rfl ?_
      refine fl_Tq.jf rfl (fl_bo rfl) ?_ rfl ?_
      · rw [at_c2, en]
        exact decide_eq_false (by show ¬ (0 ≤ (n : Int) - (32 : Int)); omega)
      refine fl_Tq.dld (i := 2) (w := 2) (n := 1) (v := fl_f (UInt32.ofNat ((127 + (d + 1)) * 8388608 + T))) rfl rfl rfl (fun _ _ _ => rfl) rfl ?_
      refine fl_Tq.psh (n := 1) (v := fl_f 0x40000000) rfl rfl rfl (fun _ _ _ => rfl) ?_
      refine fl_Tq.bi (u := .inl (Op.cmpValue (FP.fcmp (UInt32.ofNat ((127 + (d + 1)) * 8388608 + T)) 0x40000000) .l)) rfl rfl rfl (fun _ _ _ => rfl) ?_
      have ge : am_c1 .lt (Op.cmpValue (FP.fcmp (UInt32.ofNat ((127 + (d + 1)) * 8388608 + T)) 0x40000000) .l) = false := by
        rcases fg_ge2 (E := 127 + (d + 1)) (by omega) (by omega) hT with h | h <;> rw [h] <;> decide +kernel
      refine fl_Tq.zf rfl (fl_bo rfl) ge rfl ?_
      refine fl_Tq.dld (i := 2) (w := 2) (n := 1) (v := fl_f (UInt32.ofNat ((127 + (d + 1)) * 8388608 + T))) rfl rfl rfl (fun _ _ _ => rfl) rfl ?_
      refine fl_Tq.psh (n := 1) (v := fl_f 0x40000000) rfl rfl rfl (fun _ _ _ => rfl) ?_
      have n2 : vf_n32 (FP.fdiv (UInt32.ofNat ((127 + (d + 1)) * 8388608 + T)) 0x40000000) := fp_div32 (nn (127 + (d + 1)) (by omega)) (by decide) (by decide)
      refine fl_Tq.bi (u := fl_f (FP.fdiv (UInt32.ofNat ((127 + (d + 1)) * 8388608 + T)) 0x40000000)) rfl rfl rfl (fl_fbin (fun _ _ _ => rfl) n2) ?_
      rw [show 127 + (d + 1) = (127 + d) + 1 by omega, fg_half (by omega) (by omega) hT]
      refine fl_Tq.dso (i := 2) (w := 2) (n := 1) rfl rfl rfl (fun _ _ _ => rfl) rfl ?_
      refine fl_Tq.stp rfl rfl (fl_bo rfl) rfl ?_
      refine fl_Tq.stp rfl rfl (fl_bo rfl) rfl ?_
      refine fl_Tq.stp rfl rfl (fl_bo rfl) rfl ?_
      have := ih (n + 1) (e + Int32.ofInt 1) (by omega) (by rw [at_add32 (by omega) (by omega), c1]; omega)
      rw [← at_inc (by omega)] at this
      exact this
  refine fl_Tq.dld (i := 0) (w := 2) (n := 1) (v := fl_f (UInt32.ofNat (E * 8388608 + T))) rfl rfl rfl (fun _ _ _ => rfl) rfl ?_
  refine fl_Tq.psh (n := 1) (v := fl_f 0) rfl rfl rfl (fun _ _ _ => rfl) ?_
  refine fl_Tq.bi (u := .inl (Op.cmpValue (FP.fcmp (UInt32.ofNat (E * 8388608 + T)) 0) .g)) rfl rfl rfl (fun _ _ _ => rfl) ?_
  rw [fg_gt0 (by omega) (by omega) hT]
  refine fl_Tq.zt rfl (fl_bo rfl) (by decide +kernel) rfl ?_
  refine fl_Tq.stp rfl rfl (fl_bo rfl) rfl ?_
  refine fl_Tq.stp rfl rfl (fl_bo rfl) rfl ?_
  refine fl_Tq.dld (i := 0) (w := 2) (n := 1) (v := fl_f (UInt32.ofNat (E * 8388608 + T))) rfl rfl rfl (fun _ _ _ => rfl) rfl ?_
  refine fl_Tq.dso (i := 2) (w := 2) (n := 1) rfl rfl rfl (fun _ _ _ => rfl) rfl ?_
  refine fl_Tq.stp rfl rfl (fl_bo rfl) rfl ?_
  refine fl_Tq.stp rfl rfl (fl_bo rfl) rfl ?_
  -- at one or above: on
  have out : ∀ (G n : Nat) (e : Int32), 127 ≤ G → G ≤ 157 → n < 32 → e.toInt + ((G - 127 : Nat) : Int) = (E : Int) - 127 → fl_Tq (pw_P L xs) 182 14 [some (fl_f (UInt32.ofNat (E * 8388608 + T))), some (.inl e), some (fl_f (UInt32.ofNat (G * 8388608 + T))), some (.inl (Int32.ofNat n))] [] m Q := by
    intro G n e g1 g2 hn he
    have en := at_ofN (k := n) (by omega)
    refine fl_Tq.stp rfl rfl (fl_bo rfl) rfl ?_
    refine fl_Tq.stp rfl rfl (fl_bo rfl) rfl ?_
    refine fl_Tq.jf rfl (fl_bo rfl) ?_ rfl ?_
    · rw [at_c2, en]
      exact decide_eq_false (by show ¬ (0 ≤ (n : Int) - (32 : Int)); omega)
    refine fl_Tq.dld (i := 2) (w := 2) (n := 1) (v := fl_f (UInt32.ofNat (G * 8388608 + T))) rfl rfl rfl (fun _ _ _ => rfl) rfl ?_
    refine fl_Tq.psh (n := 1) (v := fl_f 0x3f800000) rfl rfl rfl (fun _ _ _ => rfl) ?_
    refine fl_Tq.bi (u := .inl (Op.cmpValue (FP.fcmp (UInt32.ofNat (G * 8388608 + T)) 0x3f800000) .g)) rfl rfl rfl (fun _ _ _ => rfl) ?_
    have ge : am_c1 .ge (Op.cmpValue (FP.fcmp (UInt32.ofNat (G * 8388608 + T)) 0x3f800000) .g) = true := by
      rcases fg_ge1 (E := G) g1 (by omega) hT with h | h <;> rw [h] <;> decide +kernel
    refine fl_Tq.zt rfl (fl_bo rfl) ge rfl ?_
    refine fl_Tq.stp rfl rfl (fl_bo rfl) rfl ?_
    refine fl_Tq.stp rfl rfl (fl_bo rfl) rfl ?_
    have := down (G - 127) 0 e (by omega) he
    rw [show 127 + (G - 127) = G by omega] at this
    exact this
  have loop : ∀ (d n : Nat) (e : Int32), E + n + d = 127 → e.toInt = -(n : Int) → fl_Tq (pw_P L xs) 182 14 [some (fl_f (UInt32.ofNat (E * 8388608 + T))), some (.inl e), some (fl_f (UInt32.ofNat ((E + n) * 8388608 + T))), some (.inl (Int32.ofNat n))] [] m Q := by
    intro d
    induction d with
    | zero =>
      intro n e hn he
      exact out (E + n) n e (by omega) (by omega) (by omega) (by omega)
    | succ d ih =>
      intro n e hn he
      have en := at_ofN (k := n) (by omega)
      refine fl_Tq.stp rfl rfl (fl_bo rfl) rfl ?_
      refine fl_Tq.stp rfl rfl (fl_bo rfl) rfl ?_
      refine fl_Tq.jf rfl (fl_bo rfl) ?_ rfl ?_
      · rw [at_c2, en]
        exact decide_eq_false (by show ¬ (0 ≤ (n : Int) - (32 : Int)); omega)
      refine fl_Tq.dld (i := 2) (w := 2) (n := 1) (v := fl_f (UInt32.ofNat ((E + n) * 8388608 + T))) rfl rfl rfl (fun _ _ _ => rfl) rfl ?_
      refine fl_Tq.psh (n := 1) (v := fl_f 0x3f800000) rfl rfl rfl (fun _ _ _ => rfl) ?_
      refine fl_Tq.bi (u := .inl (Op.cmpValue (FP.fcmp (UInt32.ofNat ((E + n) * 8388608 + T)) 0x3f800000) .g)) rfl rfl rfl (fun _ _ _ => rfl) ?_
      rw [fg_lt1 (by omega) (by omega) hT]
      refine fl_Tq.zf rfl (fl_bo rfl) (by decide +kernel) rfl ?_
      refine fl_Tq.dld (i := 2) (w := 2) (n := 1) (v := fl_f (UInt32.ofNat ((E + n) * 8388608 + T))) rfl rfl rfl (fun _ _ _ => rfl) rfl ?_
      refine fl_Tq.psh (n := 1) (v := fl_f 0x40000000) rfl rfl rfl (fun _ _ _ => rfl) ?_
      have n2 : vf_n32 (FP.fmul (UInt32.ofNat ((E + n) * 8388608 + T)) 0x40000000) := fp_mul32 (nn (E + n) (by omega)) (by decide) (by decide)
      refine fl_Tq.bi (u := fl_f (FP.fmul (UInt32.ofNat ((E + n) * 8388608 + T)) 0x40000000)) rfl rfl rfl (fl_fbin (fun _ _ _ => rfl) n2) ?_
      rw [fg_dbl (by omega) (by omega) hT]
      refine fl_Tq.dso (i := 2) (w := 2) (n := 1) rfl rfl rfl (fun _ _ _ => rfl) rfl ?_
      refine fl_Tq.stp rfl rfl (fl_bo rfl) rfl ?_
      refine fl_Tq.stp rfl rfl (fl_bo rfl) rfl ?_
      refine fl_Tq.stp rfl rfl (fl_bo rfl) rfl ?_
      have := ih (n + 1) (e + Int32.ofInt (-1)) (by omega) (by rw [at_add32 (by omega) (by omega), cm1, he]; omega)
      rw [← at_inc (by omega)] at this
      exact this
  by_cases hE : E ≤ 127
  · have := loop (127 - E) 0 (Int32.ofInt 0) (by omega) (by decide +kernel)
    rw [Nat.add_zero] at this
    exact this
  · exact out E 0 (Int32.ofInt 0) (by omega) h2 (by decide) (by rw [show (Int32.ofInt 0).toInt = 0 by decide +kernel]; omega)
theorem fg_182z (k : Q (some (.inl (0 : Int32))) m) : fl_Tq (pw_P L xs) 182 0 (fl_args (am_mxl (pw_P L xs) 182) [fl_f 0]) [] m Q := by
  refine fl_Tq.dld (i := 0) (w := 2) (n := 1) (v := fl_f 0) rfl rfl rfl (fun _ _ _ => rfl) rfl ?_
  refine fl_Tq.psh (n := 1) (v := fl_f 0) rfl rfl rfl (fun _ _ _ => rfl) ?_
  refine fl_Tq.bi (u := .inl (Op.cmpValue (FP.fcmp 0 0) .g)) rfl rfl rfl (fun _ _ _ => rfl) ?_
  refine fl_Tq.zf rfl (fl_bo rfl) (by decide +kernel) rfl ?_
  refine fl_Tq.stp rfl rfl (fl_bo rfl) rfl ?_
  exact fl_Tq.ret rfl rfl rfl k
/-- a quotient of whole numbers -/
theorem fg_quo {s a : Int32} {S A : Nat} (hs : s.toInt = (S : Int)) (ha : a.toInt = (A : Int)) (h0 : A ≠ 0) (hA : A < 32) (hS : S < 65536) : (S = 0 ∧ FP.fdiv (FP.i2f s) (FP.i2f a) = 0) ∨ ∃ E T, 97 ≤ E ∧ E ≤ 157 ∧ T < 8388608 ∧ FP.fdiv (FP.i2f s) (FP.i2f a) = UInt32.ofNat (E * 8388608 + T) := by
  have es : FP.i2f s = UInt32.ofNat (FP.Core.fromInt FP.Core.b32 (S : Int)) := by
    show UInt32.ofNat (FP.Core.fromInt FP.Core.b32 s.toInt) = _
    rw [hs]
  have eA : FP.i2f a = UInt32.ofNat (FP.Core.fromInt FP.Core.b32 (A : Int)) := by
    show UInt32.ofNat (FP.Core.fromInt FP.Core.b32 a.toInt) = _
    rw [ha]
  have e0 : FP.fdiv (FP.i2f s) (FP.i2f a) = UInt32.ofNat (FP.Core.div FP.Core.b32 (FP.Core.fromInt FP.Core.b32 (S : Int)) (FP.Core.fromInt FP.Core.b32 (A : Int))) := by
    rw [es, eA]
    show UInt32.ofNat (FP.Core.div FP.Core.b32 _ _) = _
    rw [fg_un (Nat.lt_trans (fb_intlt32 (by omega)) (by decide)), fg_un (Nat.lt_trans (fb_intlt32 (by omega)) (by decide))]
  obtain ⟨d, d1, d2, d3, d4, d5⟩ := fb_int32 h0 (by omega)
  have lA : A.log2 < 5 := (Nat.log2_lt h0).mpr hA
  by_cases hS0 : S = 0
  · refine Or.inl ⟨hS0, ?_⟩
    rw [e0, hS0, d5]
    have z : FP.Core.fromInt FP.Core.b32 ((0 : Nat) : Int) = 0 := by decide +kernel
    rw [z]
    unfold FP.Core.div
    rw [fb_d032, fb_dec32 (by omega) (by omega) (by omega)]
    have hM : 8388608 + (A * 2 ^ d - 8388608) ≠ 0 := by omega
    generalize 8388608 + (A * 2 ^ d - 8388608) = M at hM
    unfold FP.Core.quotient
    dsimp only
    rw [if_neg hM]
    unfold FP.Core.roundRatio
    rw [if_pos rfl]
    decide +kernel
  · refine Or.inr ?_
    obtain ⟨s', s1, s2, s3, s4, s5⟩ := fb_int32 hS0 (by omega)
    have lS : S.log2 < 16 := (Nat.log2_lt hS0).mpr hS
    rw [e0, s5, d5]
    obtain ⟨G, U, u1, u2, u3, u4, -, -⟩ := fb_quo32 (E := 150 - s') (T := S * 2 ^ s' - 8388608) (F := 150 - d) (d := A * 2 ^ d - 8388608) (by omega) (by omega) (by omega) (by omega) (by omega) (by omega) (by omega) (by omega)
    exact ⟨G, U, by omega, by omega, u1, by rw [u2]⟩
end FFF

end
theorem x_off_A {L : Nat} {xs : Nat → Int32} {f : t2_F} {l : t2_L} {Q : Option fl_V → fl_M → Prop}   (k : ((f 1 5).toInt = 0) → Q (some (.inl (0 : Int32))) (f, l)) (k1 : (¬ ((f 1 5).toInt = 0)) → fl_Tq (pw_P L xs) 157 16 [some (.inr (.inr (.inl (0, 0)))), some (.inl (0 : Int32)), some (.inl (0 : Int32))] [] (f, l) Q) : fl_Tq (pw_P L xs) 157 0 [some (.inr (.inr (.inl (0, 0)))), none, none] [] (f, l) Q := by
  refine fl_Tq.stp (pc' := 1) (lv' := [some (.inr (.inr (.inl (0, 0)))), none, none]) (st' := [.inr (.inr (.inl (0, 0)))]) (m' := (f, l)) rfl rfl (fl_bo rfl) rfl ?_
  refine fl_Tq.stp (pc' := 4) (lv' := [some (.inr (.inr (.inl (0, 0)))), none, none]) (st' := [.inr (.inr (.inl (1, 1)))]) (m' := (f, l)) rfl rfl (fl_bo rfl) rfl ?_
  refine fl_Tq.gfV (k := 5) (v := f 1 5) rfl (fl_bo rfl) rfl rfl ?_
  by_cases h1 : (f 1 5).toInt = 0
  · refine fl_Tq.zf rfl (fl_bo rfl) (c1_ne_f h1) rfl ?_
    refine fl_Tq.cI (c := (0 : Int32)) rfl (by decide +kernel) (fl_bo rfl) ?_
    exact fl_Tq.ret rfl rfl rfl (k h1)
  · refine fl_Tq.zt rfl (fl_bo rfl) (c1_ne_t h1) rfl ?_
    refine fl_Tq.cI (c := (0 : Int32)) rfl (by decide +kernel) (fl_bo rfl) ?_
    refine fl_Tq.stp (pc' := 14) (lv' := [some (.inr (.inr (.inl (0, 0)))), some (.inl (0 : Int32)), none]) (st' := []) (m' := (f, l)) rfl rfl (fl_bo rfl) rfl ?_
    refine fl_Tq.cI (c := (0 : Int32)) rfl (by decide +kernel) (fl_bo rfl) ?_
    refine fl_Tq.stp (pc' := 16) (lv' := [some (.inr (.inr (.inl (0, 0)))), some (.inl (0 : Int32)), some (.inl (0 : Int32))]) (st' := []) (m' := (f, l)) rfl rfl (fl_bo rfl) rfl ?_
    exact k1 h1
theorem x_off_B {L : Nat} {xs : Nat → Int32} {f : t2_F} {l : t2_L} {Q : Option fl_V → fl_M → Prop} {s : Int32} {C : Nat} (hC : C < 16) (hkk : (Int32.ofNat C).toInt < (f 1 5).toInt) (k : fl_Tq (pw_P L xs) 157 16 [some (.inr (.inr (.inl (0, 0)))), some (.inl (s + (t2_abs_v ((c0_reckonedPart_v f C) - (f (18 + 4 * C) 3))))), some (.inl ((Int32.ofNat C) + (1 : Int32)))] [] (f, l) Q) : fl_Tq (pw_P L xs) 157 16 [some (.inr (.inr (.inl (0, 0)))), some (.inl s), some (.inl (Int32.ofNat C))] [] (f, l) Q := by
  refine fl_Tq.stp (pc' := 17) (lv' := [some (.inr (.inr (.inl (0, 0)))), some (.inl s), some (.inl (Int32.ofNat C))]) (st' := [.inl (Int32.ofNat C)]) (m' := (f, l)) rfl rfl (fl_bo rfl) rfl ?_
  refine fl_Tq.stp (pc' := 18) (lv' := [some (.inr (.inr (.inl (0, 0)))), some (.inl s), some (.inl (Int32.ofNat C))]) (st' := [.inr (.inr (.inl (0, 0))), .inl (Int32.ofNat C)]) (m' := (f, l)) rfl rfl (fl_bo rfl) rfl ?_
  refine fl_Tq.stp (pc' := 21) (lv' := [some (.inr (.inr (.inl (0, 0)))), some (.inl s), some (.inl (Int32.ofNat C))]) (st' := [.inr (.inr (.inl (1, 1))), .inl (Int32.ofNat C)]) (m' := (f, l)) rfl rfl (fl_bo rfl) rfl ?_
  refine fl_Tq.gfV (k := 5) (v := f 1 5) rfl (fl_bo rfl) rfl rfl ?_
  refine fl_Tq.jf rfl (fl_bo rfl) (c2_ge_f hkk) rfl ?_
  refine fl_Tq.stp (pc' := 28) (lv' := [some (.inr (.inr (.inl (0, 0)))), some (.inl s), some (.inl (Int32.ofNat C))]) (st' := [.inl s]) (m' := (f, l)) rfl rfl (fl_bo rfl) rfl ?_
  refine fl_Tq.stp (pc' := 29) (lv' := [some (.inr (.inr (.inl (0, 0)))), some (.inl s), some (.inl (Int32.ofNat C))]) (st' := [.inr (.inr (.inl (0, 0))), .inl s]) (m' := (f, l)) rfl rfl (fl_bo rfl) rfl ?_
  refine fl_Tq.stp (pc' := 32) (lv' := [some (.inr (.inr (.inl (0, 0)))), some (.inl s), some (.inl (Int32.ofNat C))]) (st' := [.inr (.inr (.inl (1, 1))), .inl s]) (m' := (f, l)) rfl rfl (fl_bo rfl) rfl ?_
  refine fl_Tq.stp (pc' := 35) (lv' := [some (.inr (.inr (.inl (0, 0)))), some (.inl s), some (.inl (Int32.ofNat C))]) (st' := [.inr (.inr (.inl (2, 2))), .inl s]) (m' := (f, l)) rfl rfl (fl_bo rfl) rfl ?_
  refine fl_Tq.stp (pc' := 36) (lv' := [some (.inr (.inr (.inl (0, 0)))), some (.inl s), some (.inl (Int32.ofNat C))]) (st' := [.inl (Int32.ofNat C), .inr (.inr (.inl (2, 2))), .inl s]) (m' := (f, l)) rfl rfl (fl_bo rfl) rfl ?_
  refine fl_Tq.qld (p := 2) (τ := 2) (n := 16) (t := 18) (b := 16) (d := 3) (k := C) rfl (fl_bo rfl) rfl (at_ofN (by omega)) (by omega) ?_
  show fl_Tq _ 157 37 [some (.inr (.inr (.inl (0, 0)))), some (.inl s), some (.inl (Int32.ofNat C))] [.inr (.inr (.inl (18, 18 + 4 * C))), .inl s] (f, l) _
  refine fl_Tq.cal rfl rfl (fl_oks_ok ⟨(t2_kc0 (by omega)), True.intro, True.intro⟩) rfl ?_
  refine c0_reckonedPart_q (by omega) ?_
  show fl_Tq _ 157 40 [some (.inr (.inr (.inl (0, 0)))), some (.inl s), some (.inl (Int32.ofNat C))] [.inl (c0_reckonedPart_v f C), .inl s] (f, l) _
  refine fl_Tq.stp (pc' := 41) (lv' := [some (.inr (.inr (.inl (0, 0)))), some (.inl s), some (.inl (Int32.ofNat C))]) (st' := [.inr (.inr (.inl (0, 0))), .inl (c0_reckonedPart_v f C), .inl s]) (m' := (f, l)) rfl rfl (fl_bo rfl) rfl ?_
  refine fl_Tq.stp (pc' := 44) (lv' := [some (.inr (.inr (.inl (0, 0)))), some (.inl s), some (.inl (Int32.ofNat C))]) (st' := [.inr (.inr (.inl (1, 1))), .inl (c0_reckonedPart_v f C), .inl s]) (m' := (f, l)) rfl rfl (fl_bo rfl) rfl ?_
  refine fl_Tq.stp (pc' := 47) (lv' := [some (.inr (.inr (.inl (0, 0)))), some (.inl s), some (.inl (Int32.ofNat C))]) (st' := [.inr (.inr (.inl (2, 2))), .inl (c0_reckonedPart_v f C), .inl s]) (m' := (f, l)) rfl rfl (fl_bo rfl) rfl ?_
  refine fl_Tq.stp (pc' := 48) (lv' := [some (.inr (.inr (.inl (0, 0)))), some (.inl s), some (.inl (Int32.ofNat C))]) (st' := [.inl (Int32.ofNat C), .inr (.inr (.inl (2, 2))), .inl (c0_reckonedPart_v f C), .inl s]) (m' := (f, l)) rfl rfl (fl_bo rfl) rfl ?_
  refine fl_Tq.qld (p := 2) (τ := 2) (n := 16) (t := 18) (b := 16) (d := 3) (k := C) rfl (fl_bo rfl) rfl (at_ofN (by omega)) (by omega) ?_
  show fl_Tq _ 157 49 [some (.inr (.inr (.inl (0, 0)))), some (.inl s), some (.inl (Int32.ofNat C))] [.inr (.inr (.inl (18, 18 + 4 * C))), .inl (c0_reckonedPart_v f C), .inl s] (f, l) _
  refine fl_Tq.gfV (k := 3) (v := f (18 + 4 * C) 3) rfl (fl_oks_ok ⟨(t2_kc0 (by omega)), True.intro, True.intro, True.intro⟩) rfl rfl ?_
  refine fl_Tq.stp (pc' := 53) (lv' := [some (.inr (.inr (.inl (0, 0)))), some (.inl s), some (.inl (Int32.ofNat C))]) (st' := [.inl ((c0_reckonedPart_v f C) - (f (18 + 4 * C) 3)), .inl s]) (m' := (f, l)) rfl rfl (fl_bo rfl) rfl ?_
  refine fl_Tq.cal rfl rfl (fl_bo rfl) rfl ?_
  refine t2_abs_q  ?_
  show fl_Tq _ 157 56 [some (.inr (.inr (.inl (0, 0)))), some (.inl s), some (.inl (Int32.ofNat C))] [.inl (t2_abs_v ((c0_reckonedPart_v f C) - (f (18 + 4 * C) 3))), .inl s] (f, l) _
  refine fl_Tq.stp (pc' := 57) (lv' := [some (.inr (.inr (.inl (0, 0)))), some (.inl s), some (.inl (Int32.ofNat C))]) (st' := [.inl (s + (t2_abs_v ((c0_reckonedPart_v f C) - (f (18 + 4 * C) 3))))]) (m' := (f, l)) rfl rfl (fl_bo rfl) rfl ?_
  refine fl_Tq.stp (pc' := 58) (lv' := [some (.inr (.inr (.inl (0, 0)))), some (.inl (s + (t2_abs_v ((c0_reckonedPart_v f C) - (f (18 + 4 * C) 3))))), some (.inl (Int32.ofNat C))]) (st' := []) (m' := (f, l)) rfl rfl (fl_bo rfl) rfl ?_
  refine fl_Tq.stp (pc' := 61) (lv' := [some (.inr (.inr (.inl (0, 0)))), some (.inl (s + (t2_abs_v ((c0_reckonedPart_v f C) - (f (18 + 4 * C) 3))))), some (.inl ((Int32.ofNat C) + (1 : Int32)))]) (st' := []) (m' := (f, l)) rfl rfl (fl_bo rfl) rfl ?_
  refine fl_Tq.stp (pc' := 16) (lv' := [some (.inr (.inr (.inl (0, 0)))), some (.inl (s + (t2_abs_v ((c0_reckonedPart_v f C) - (f (18 + 4 * C) 3))))), some (.inl ((Int32.ofNat C) + (1 : Int32)))]) (st' := []) (m' := (f, l)) rfl rfl (fl_bo rfl) rfl ?_
  exact k
theorem x_off_C {L : Nat} {xs : Nat → Int32} {f : t2_F} {l : t2_L} {Q : Option fl_V → fl_M → Prop} {s : Int32} {C : Nat} (hkk : ¬ ((Int32.ofNat C).toInt < (f 1 5).toInt)) (k : fl_Tq (pw_P L xs) 157 64 [some (.inr (.inr (.inl (0, 0)))), some (.inl s), some (.inl (Int32.ofNat C))] [] (f, l) Q) : fl_Tq (pw_P L xs) 157 16 [some (.inr (.inr (.inl (0, 0)))), some (.inl s), some (.inl (Int32.ofNat C))] [] (f, l) Q := by
  refine fl_Tq.stp (pc' := 17) (lv' := [some (.inr (.inr (.inl (0, 0)))), some (.inl s), some (.inl (Int32.ofNat C))]) (st' := [.inl (Int32.ofNat C)]) (m' := (f, l)) rfl rfl (fl_bo rfl) rfl ?_
  refine fl_Tq.stp (pc' := 18) (lv' := [some (.inr (.inr (.inl (0, 0)))), some (.inl s), some (.inl (Int32.ofNat C))]) (st' := [.inr (.inr (.inl (0, 0))), .inl (Int32.ofNat C)]) (m' := (f, l)) rfl rfl (fl_bo rfl) rfl ?_
  refine fl_Tq.stp (pc' := 21) (lv' := [some (.inr (.inr (.inl (0, 0)))), some (.inl s), some (.inl (Int32.ofNat C))]) (st' := [.inr (.inr (.inl (1, 1))), .inl (Int32.ofNat C)]) (m' := (f, l)) rfl rfl (fl_bo rfl) rfl ?_
  refine fl_Tq.gfV (k := 5) (v := f 1 5) rfl (fl_bo rfl) rfl rfl ?_
  refine fl_Tq.jt rfl (fl_bo rfl) (c2_ge_t hkk) rfl ?_
  exact k
theorem y_off_A {L : Nat} {xs : Nat → Int32} {f : t2_F} {l : t2_L} {Q : Option fl_V → fl_M → Prop}   (k : fl_Tq (pw_P L xs) 293 4 [some (.inr (.inr (.inl (76, 277)))), some (.inl (0 : Int32)), some (.inl (0 : Int32))] [] (f, l) Q) : fl_Tq (pw_P L xs) 293 0 [some (.inr (.inr (.inl (76, 277)))), none, none] [] (f, l) Q := by
  refine fl_Tq.cI (c := (0 : Int32)) rfl (by decide +kernel) (fl_bo rfl) ?_
  refine fl_Tq.stp (pc' := 2) (lv' := [some (.inr (.inr (.inl (76, 277)))), some (.inl (0 : Int32)), none]) (st' := []) (m' := (f, l)) rfl rfl (fl_bo rfl) rfl ?_
  refine fl_Tq.cI (c := (0 : Int32)) rfl (by decide +kernel) (fl_bo rfl) ?_
  refine fl_Tq.stp (pc' := 4) (lv' := [some (.inr (.inr (.inl (76, 277)))), some (.inl (0 : Int32)), some (.inl (0 : Int32))]) (st' := []) (m' := (f, l)) rfl rfl (fl_bo rfl) rfl ?_
  exact k
theorem y_off_B {L : Nat} {xs : Nat → Int32} {f : t2_F} {l : t2_L} {Q : Option fl_V → fl_M → Prop} {s : Int32} {C : Nat} (hC : C < 16) (hCn : (C : Int) < (f 280 2).toInt) (hkk : (Int32.ofNat C).toInt < (f 280 2).toInt) (hk : ∀ C : Nat, (C : Int) < (f 280 2).toInt → t2_ck f C) (k : fl_Tq (pw_P L xs) 293 4 [some (.inr (.inr (.inl (76, 277)))), some (.inl (s + (r_size_v (((((1000 : Int64) * ((f 280 (444 + 61 * C + 4)).toInt64)) / (((3600 : Int32) * (f 280 (444 + 61 * C + 0))).toInt64)).toInt32) - (r_partOf_v f (Int32.ofNat C) C))))), some (.inl ((Int32.ofNat C) + (1 : Int32)))] [] (f, l) Q) : fl_Tq (pw_P L xs) 293 4 [some (.inr (.inr (.inl (76, 277)))), some (.inl s), some (.inl (Int32.ofNat C))] [] (f, l) Q := by
  refine fl_Tq.stp (pc' := 5) (lv' := [some (.inr (.inr (.inl (76, 277)))), some (.inl s), some (.inl (Int32.ofNat C))]) (st' := [.inl (Int32.ofNat C)]) (m' := (f, l)) rfl rfl (fl_bo rfl) rfl ?_
  refine fl_Tq.stp (pc' := 6) (lv' := [some (.inr (.inr (.inl (76, 277)))), some (.inl s), some (.inl (Int32.ofNat C))]) (st' := [.inr (.inr (.inl (76, 277))), .inl (Int32.ofNat C)]) (m' := (f, l)) rfl rfl (fl_bo rfl) rfl ?_
  refine fl_Tq.stp (pc' := 9) (lv' := [some (.inr (.inr (.inl (76, 277)))), some (.inl s), some (.inl (Int32.ofNat C))]) (st' := [.inr (.inr (.inl (79, 280))), .inl (Int32.ofNat C)]) (m' := (f, l)) rfl rfl (fl_bo rfl) rfl ?_
  refine fl_Tq.cI (c := (2 : Int32)) rfl (by decide +kernel) (fl_bo rfl) ?_
  refine fl_Tq.ldV (p := 280) (τ := 79) (n := 29780) (z := (0, 0, 0)) (k := 2) (v := f 280 2) rfl (fl_bo rfl) rfl (by decide +kernel) (by decide) rfl ?_
  refine fl_Tq.jf rfl (fl_bo rfl) (c2_ge_f hkk) rfl ?_
  refine fl_Tq.stp (pc' := 15) (lv' := [some (.inr (.inr (.inl (76, 277)))), some (.inl s), some (.inl (Int32.ofNat C))]) (st' := [.inl s]) (m' := (f, l)) rfl rfl (fl_bo rfl) rfl ?_
  refine fl_Tq.stp (pc' := 16) (lv' := [some (.inr (.inr (.inl (76, 277)))), some (.inl s), some (.inl (Int32.ofNat C))]) (st' := [.inr (.inr (.inl (76, 277))), .inl s]) (m' := (f, l)) rfl rfl (fl_bo rfl) rfl ?_
  refine fl_Tq.stp (pc' := 17) (lv' := [some (.inr (.inr (.inl (76, 277)))), some (.inl s), some (.inl (Int32.ofNat C))]) (st' := [.inl (Int32.ofNat C), .inr (.inr (.inl (76, 277))), .inl s]) (m' := (f, l)) rfl rfl (fl_bo rfl) rfl ?_
  refine fl_Tq.stp (pc' := 18) (lv' := [some (.inr (.inr (.inl (76, 277)))), some (.inl s), some (.inl (Int32.ofNat C))]) (st' := [.inr (.inr (.inl (76, 277))), .inl (Int32.ofNat C), .inr (.inr (.inl (76, 277))), .inl s]) (m' := (f, l)) rfl rfl (fl_bo rfl) rfl ?_
  refine fl_Tq.stp (pc' := 19) (lv' := [some (.inr (.inr (.inl (76, 277)))), some (.inl s), some (.inl (Int32.ofNat C))]) (st' := [.inl (Int32.ofNat C), .inr (.inr (.inl (76, 277))), .inl (Int32.ofNat C), .inr (.inr (.inl (76, 277))), .inl s]) (m' := (f, l)) rfl rfl (fl_bo rfl) rfl ?_
  refine fl_Tq.cI (c := (4 : Int32)) rfl (by decide +kernel) (fl_bo rfl) ?_
  refine fl_Tq.cal rfl rfl (fl_bo rfl) rfl ?_
  refine t2_get (C := C) (W := 4) (v := f 280 (444 + 61 * C + 4)) (at_ofN (by omega)) (by decide +kernel) (by omega) (by decide) rfl ?_
  show fl_Tq _ 293 23 [some (.inr (.inr (.inl (76, 277)))), some (.inl s), some (.inl (Int32.ofNat C))] [.inl (f 280 (444 + 61 * C + 4)), .inl (Int32.ofNat C), .inr (.inr (.inl (76, 277))), .inl s] (f, l) _
  refine fl_Tq.cal rfl rfl (fl_bo rfl) rfl ?_
  refine fl_Tq.stp (pc' := 3) (lv' := [some (.inr (.inr (.inl (76, 277)))), some (.inl (Int32.ofNat C)), some (.inl (f 280 (444 + 61 * C + 4)))]) (st' := [.inr (.inl (1000 : Int64))]) (m' := (f, l)) rfl rfl (fl_bo rfl) rfl ?_
  refine fl_Tq.stp (pc' := 4) (lv' := [some (.inr (.inr (.inl (76, 277)))), some (.inl (Int32.ofNat C)), some (.inl (f 280 (444 + 61 * C + 4)))]) (st' := [.inl (f 280 (444 + 61 * C + 4)), .inr (.inl (1000 : Int64))]) (m' := (f, l)) rfl rfl (fl_bo rfl) rfl ?_
  refine fl_Tq.stp (pc' := 5) (lv' := [some (.inr (.inr (.inl (76, 277)))), some (.inl (Int32.ofNat C)), some (.inl (f 280 (444 + 61 * C + 4)))]) (st' := [.inr (.inl ((f 280 (444 + 61 * C + 4)).toInt64)), .inr (.inl (1000 : Int64))]) (m' := (f, l)) rfl rfl (fl_bo rfl) rfl ?_
  refine fl_Tq.stp (pc' := 6) (lv' := [some (.inr (.inr (.inl (76, 277)))), some (.inl (Int32.ofNat C)), some (.inl (f 280 (444 + 61 * C + 4)))]) (st' := [.inr (.inl ((1000 : Int64) * ((f 280 (444 + 61 * C + 4)).toInt64)))]) (m' := (f, l)) rfl rfl (fl_bo rfl) rfl ?_
  refine fl_Tq.stp (pc' := 7) (lv' := [some (.inr (.inr (.inl (76, 277)))), some (.inl (Int32.ofNat C)), some (.inl (f 280 (444 + 61 * C + 4)))]) (st' := [.inr (.inr (.inl (76, 277))), .inr (.inl ((1000 : Int64) * ((f 280 (444 + 61 * C + 4)).toInt64)))]) (m' := (f, l)) rfl rfl (fl_bo rfl) rfl ?_
  refine fl_Tq.stp (pc' := 8) (lv' := [some (.inr (.inr (.inl (76, 277)))), some (.inl (Int32.ofNat C)), some (.inl (f 280 (444 + 61 * C + 4)))]) (st' := [.inl (Int32.ofNat C), .inr (.inr (.inl (76, 277))), .inr (.inl ((1000 : Int64) * ((f 280 (444 + 61 * C + 4)).toInt64)))]) (m' := (f, l)) rfl rfl (fl_bo rfl) rfl ?_
  refine fl_Tq.cal rfl rfl (fl_bo rfl) rfl ?_
  refine fl_Tq.cS (c := (3600 : Int32)) rfl (by decide +kernel) (fl_bo rfl) ?_
  refine fl_Tq.stp (pc' := 4) (lv' := [some (.inr (.inr (.inl (76, 277)))), some (.inl (Int32.ofNat C))]) (st' := [.inr (.inr (.inl (76, 277))), .inl (3600 : Int32)]) (m' := (f, l)) rfl rfl (fl_bo rfl) rfl ?_
  refine fl_Tq.stp (pc' := 5) (lv' := [some (.inr (.inr (.inl (76, 277)))), some (.inl (Int32.ofNat C))]) (st' := [.inl (Int32.ofNat C), .inr (.inr (.inl (76, 277))), .inl (3600 : Int32)]) (m' := (f, l)) rfl rfl (fl_bo rfl) rfl ?_
  refine fl_Tq.cI (c := (0 : Int32)) rfl (by decide +kernel) (fl_bo rfl) ?_
  refine fl_Tq.cal rfl rfl (fl_bo rfl) rfl ?_
  refine t2_get (C := C) (W := 0) (v := f 280 (444 + 61 * C + 0)) (at_ofN (by omega)) (by decide +kernel) (by omega) (by decide) rfl ?_
  show fl_Tq _ 195 9 [some (.inr (.inr (.inl (76, 277)))), some (.inl (Int32.ofNat C))] [.inl (f 280 (444 + 61 * C + 0)), .inl (3600 : Int32)] (f, l) _
  refine fl_Tq.stp (pc' := 10) (lv' := [some (.inr (.inr (.inl (76, 277)))), some (.inl (Int32.ofNat C))]) (st' := [.inl ((3600 : Int32) * (f 280 (444 + 61 * C + 0)))]) (m' := (f, l)) rfl rfl (fl_bo rfl) rfl ?_
  refine fl_Tq.ret rfl rfl rfl ?_
  show fl_Tq _ 196 11 [some (.inr (.inr (.inl (76, 277)))), some (.inl (Int32.ofNat C)), some (.inl (f 280 (444 + 61 * C + 4)))] [.inl ((3600 : Int32) * (f 280 (444 + 61 * C + 0))), .inr (.inl ((1000 : Int64) * ((f 280 (444 + 61 * C + 4)).toInt64)))] (f, l) _
  refine fl_Tq.stp (pc' := 12) (lv' := [some (.inr (.inr (.inl (76, 277)))), some (.inl (Int32.ofNat C)), some (.inl (f 280 (444 + 61 * C + 4)))]) (st' := [.inr (.inl (((3600 : Int32) * (f 280 (444 + 61 * C + 0))).toInt64)), .inr (.inl ((1000 : Int64) * ((f 280 (444 + 61 * C + 4)).toInt64)))]) (m' := (f, l)) rfl rfl (fl_bo rfl) rfl ?_
  refine fl_Tq.dvJ rfl (fl_bo rfl) (t2_nzf (hk C hCn).1) ?_
  refine fl_Tq.stp (pc' := 14) (lv' := [some (.inr (.inr (.inl (76, 277)))), some (.inl (Int32.ofNat C)), some (.inl (f 280 (444 + 61 * C + 4)))]) (st' := [.inl ((((1000 : Int64) * ((f 280 (444 + 61 * C + 4)).toInt64)) / (((3600 : Int32) * (f 280 (444 + 61 * C + 0))).toInt64)).toInt32)]) (m' := (f, l)) rfl rfl (fl_bo rfl) rfl ?_
  refine fl_Tq.ret rfl rfl rfl ?_
  show fl_Tq _ 293 26 [some (.inr (.inr (.inl (76, 277)))), some (.inl s), some (.inl (Int32.ofNat C))] [.inl ((((1000 : Int64) * ((f 280 (444 + 61 * C + 4)).toInt64)) / (((3600 : Int32) * (f 280 (444 + 61 * C + 0))).toInt64)).toInt32), .inl s] (f, l) _
  refine fl_Tq.stp (pc' := 27) (lv' := [some (.inr (.inr (.inl (76, 277)))), some (.inl s), some (.inl (Int32.ofNat C))]) (st' := [.inr (.inr (.inl (76, 277))), .inl ((((1000 : Int64) * ((f 280 (444 + 61 * C + 4)).toInt64)) / (((3600 : Int32) * (f 280 (444 + 61 * C + 0))).toInt64)).toInt32), .inl s]) (m' := (f, l)) rfl rfl (fl_bo rfl) rfl ?_
  refine fl_Tq.stp (pc' := 28) (lv' := [some (.inr (.inr (.inl (76, 277)))), some (.inl s), some (.inl (Int32.ofNat C))]) (st' := [.inl (Int32.ofNat C), .inr (.inr (.inl (76, 277))), .inl ((((1000 : Int64) * ((f 280 (444 + 61 * C + 4)).toInt64)) / (((3600 : Int32) * (f 280 (444 + 61 * C + 0))).toInt64)).toInt32), .inl s]) (m' := (f, l)) rfl rfl (fl_bo rfl) rfl ?_
  refine fl_Tq.cal rfl rfl (fl_bo rfl) rfl ?_
  refine r_partOf_q (at_ofN (by omega)) (by omega) (hk C hCn) ?_
  show fl_Tq _ 293 31 [some (.inr (.inr (.inl (76, 277)))), some (.inl s), some (.inl (Int32.ofNat C))] [.inl (r_partOf_v f (Int32.ofNat C) C), .inl ((((1000 : Int64) * ((f 280 (444 + 61 * C + 4)).toInt64)) / (((3600 : Int32) * (f 280 (444 + 61 * C + 0))).toInt64)).toInt32), .inl s] (f, l) _
  refine fl_Tq.stp (pc' := 32) (lv' := [some (.inr (.inr (.inl (76, 277)))), some (.inl s), some (.inl (Int32.ofNat C))]) (st' := [.inl (((((1000 : Int64) * ((f 280 (444 + 61 * C + 4)).toInt64)) / (((3600 : Int32) * (f 280 (444 + 61 * C + 0))).toInt64)).toInt32) - (r_partOf_v f (Int32.ofNat C) C)), .inl s]) (m' := (f, l)) rfl rfl (fl_bo rfl) rfl ?_
  refine fl_Tq.cal rfl rfl (fl_bo rfl) rfl ?_
  refine r_size_q  ?_
  show fl_Tq _ 293 35 [some (.inr (.inr (.inl (76, 277)))), some (.inl s), some (.inl (Int32.ofNat C))] [.inl (r_size_v (((((1000 : Int64) * ((f 280 (444 + 61 * C + 4)).toInt64)) / (((3600 : Int32) * (f 280 (444 + 61 * C + 0))).toInt64)).toInt32) - (r_partOf_v f (Int32.ofNat C) C))), .inl s] (f, l) _
  refine fl_Tq.stp (pc' := 36) (lv' := [some (.inr (.inr (.inl (76, 277)))), some (.inl s), some (.inl (Int32.ofNat C))]) (st' := [.inl (s + (r_size_v (((((1000 : Int64) * ((f 280 (444 + 61 * C + 4)).toInt64)) / (((3600 : Int32) * (f 280 (444 + 61 * C + 0))).toInt64)).toInt32) - (r_partOf_v f (Int32.ofNat C) C))))]) (m' := (f, l)) rfl rfl (fl_bo rfl) rfl ?_
  refine fl_Tq.stp (pc' := 37) (lv' := [some (.inr (.inr (.inl (76, 277)))), some (.inl (s + (r_size_v (((((1000 : Int64) * ((f 280 (444 + 61 * C + 4)).toInt64)) / (((3600 : Int32) * (f 280 (444 + 61 * C + 0))).toInt64)).toInt32) - (r_partOf_v f (Int32.ofNat C) C))))), some (.inl (Int32.ofNat C))]) (st' := []) (m' := (f, l)) rfl rfl (fl_bo rfl) rfl ?_
  refine fl_Tq.stp (pc' := 40) (lv' := [some (.inr (.inr (.inl (76, 277)))), some (.inl (s + (r_size_v (((((1000 : Int64) * ((f 280 (444 + 61 * C + 4)).toInt64)) / (((3600 : Int32) * (f 280 (444 + 61 * C + 0))).toInt64)).toInt32) - (r_partOf_v f (Int32.ofNat C) C))))), some (.inl ((Int32.ofNat C) + (1 : Int32)))]) (st' := []) (m' := (f, l)) rfl rfl (fl_bo rfl) rfl ?_
  refine fl_Tq.stp (pc' := 4) (lv' := [some (.inr (.inr (.inl (76, 277)))), some (.inl (s + (r_size_v (((((1000 : Int64) * ((f 280 (444 + 61 * C + 4)).toInt64)) / (((3600 : Int32) * (f 280 (444 + 61 * C + 0))).toInt64)).toInt32) - (r_partOf_v f (Int32.ofNat C) C))))), some (.inl ((Int32.ofNat C) + (1 : Int32)))]) (st' := []) (m' := (f, l)) rfl rfl (fl_bo rfl) rfl ?_
  exact k
theorem y_off_C {L : Nat} {xs : Nat → Int32} {f : t2_F} {l : t2_L} {Q : Option fl_V → fl_M → Prop} {s : Int32} {C : Nat} (hkk : ¬ ((Int32.ofNat C).toInt < (f 280 2).toInt)) (k : fl_Tq (pw_P L xs) 293 43 [some (.inr (.inr (.inl (76, 277)))), some (.inl s), some (.inl (Int32.ofNat C))] [] (f, l) Q) : fl_Tq (pw_P L xs) 293 4 [some (.inr (.inr (.inl (76, 277)))), some (.inl s), some (.inl (Int32.ofNat C))] [] (f, l) Q := by
  refine fl_Tq.stp (pc' := 5) (lv' := [some (.inr (.inr (.inl (76, 277)))), some (.inl s), some (.inl (Int32.ofNat C))]) (st' := [.inl (Int32.ofNat C)]) (m' := (f, l)) rfl rfl (fl_bo rfl) rfl ?_
  refine fl_Tq.stp (pc' := 6) (lv' := [some (.inr (.inr (.inl (76, 277)))), some (.inl s), some (.inl (Int32.ofNat C))]) (st' := [.inr (.inr (.inl (76, 277))), .inl (Int32.ofNat C)]) (m' := (f, l)) rfl rfl (fl_bo rfl) rfl ?_
  refine fl_Tq.stp (pc' := 9) (lv' := [some (.inr (.inr (.inl (76, 277)))), some (.inl s), some (.inl (Int32.ofNat C))]) (st' := [.inr (.inr (.inl (79, 280))), .inl (Int32.ofNat C)]) (m' := (f, l)) rfl rfl (fl_bo rfl) rfl ?_
  refine fl_Tq.cI (c := (2 : Int32)) rfl (by decide +kernel) (fl_bo rfl) ?_
  refine fl_Tq.ldV (p := 280) (τ := 79) (n := 29780) (z := (0, 0, 0)) (k := 2) (v := f 280 2) rfl (fl_bo rfl) rfl (by decide +kernel) (by decide) rfl ?_
  refine fl_Tq.jt rfl (fl_bo rfl) (c2_ge_t hkk) rfl ?_
  exact k
theorem y_off_D {L : Nat} {xs : Nat → Int32} {f : t2_F} {l : t2_L} {Q : Option fl_V → fl_M → Prop} {s : Int32} {C : Nat}  (k : ((f 280 2).toInt = 0) → Q (some (.inl (0 : Int32))) (f, l)) (k1 : (¬ ((f 280 2).toInt = 0)) → fl_Tq (pw_P L xs) 293 56 [some (.inr (.inr (.inl (76, 277)))), some (.inl s), some (.inl (Int32.ofNat C))] [] (f, l) Q) : fl_Tq (pw_P L xs) 293 43 [some (.inr (.inr (.inl (76, 277)))), some (.inl s), some (.inl (Int32.ofNat C))] [] (f, l) Q := by
  refine fl_Tq.stp (pc' := 44) (lv' := [some (.inr (.inr (.inl (76, 277)))), some (.inl s), some (.inl (Int32.ofNat C))]) (st' := [.inr (.inr (.inl (76, 277)))]) (m' := (f, l)) rfl rfl (fl_bo rfl) rfl ?_
  refine fl_Tq.stp (pc' := 47) (lv' := [some (.inr (.inr (.inl (76, 277)))), some (.inl s), some (.inl (Int32.ofNat C))]) (st' := [.inr (.inr (.inl (79, 280)))]) (m' := (f, l)) rfl rfl (fl_bo rfl) rfl ?_
  refine fl_Tq.cI (c := (2 : Int32)) rfl (by decide +kernel) (fl_bo rfl) ?_
  refine fl_Tq.ldV (p := 280) (τ := 79) (n := 29780) (z := (0, 0, 0)) (k := 2) (v := f 280 2) rfl (fl_bo rfl) rfl (by decide +kernel) (by decide) rfl ?_
  by_cases h1 : (f 280 2).toInt = 0
  · refine fl_Tq.zf rfl (fl_bo rfl) (c1_ne_f h1) rfl ?_
    refine fl_Tq.cI (c := (0 : Int32)) rfl (by decide +kernel) (fl_bo rfl) ?_
    refine fl_Tq.stp (pc' := 69) (lv' := [some (.inr (.inr (.inl (76, 277)))), some (.inl s), some (.inl (Int32.ofNat C))]) (st' := [.inl (0 : Int32)]) (m' := (f, l)) rfl rfl (fl_bo rfl) rfl ?_
    exact fl_Tq.ret rfl rfl rfl (k h1)
  · refine fl_Tq.zt rfl (fl_bo rfl) (c1_ne_t h1) rfl ?_
    exact k1 h1
/-! ===== off, on both sides ===== -/
noncomputable def t2_offA (f : t2_F) : Nat → Int32
  | 0 => (0 : Int32)
  | k + 1 => t2_offA f k + t2_abs_v ((c0_reckonedPart_v f k) - (f (18 + 4 * k) 3))
noncomputable def t2_offV (f : t2_F) : Int32 := if (f 280 2).toInt = 0 then (0 : Int32) else (FP.fdiv (FP.i2f (t2_offA f (f 280 2).toInt.toNat)) (FP.i2f (f 280 2))).toInt32
theorem t2_off_r {f : t2_F} {A : Nat} (I : c0_I f f) (hC : A < (f 280 2).toInt.toNat) : c0_reckonedPart_v f A = (((1000 : Int64) * ((f 280 (444 + 61 * A + 4)).toInt64)) / (((3600 : Int32) * (f 280 (444 + 61 * A + 0))).toInt64)).toInt32 ∧ 0 ≤ (c0_reckonedPart_v f A).toInt ∧ (c0_reckonedPart_v f A).toInt ≤ 1000 := by
  obtain ⟨⟨rc, gc⟩, oc⟩ := I.cell hC
  obtain ⟨⟨e0, e1, e2⟩, -, -, e8, -⟩ := rc
  have hcap : t2_cap (f 280 (444 + 61 * A + 0)) := oc.1.1
  have er : c0_reckonedPart_v f A = t2_partOf_v (f 280 (444 + 61 * A + 4)) ((f 280 (444 + 61 * A + 0)) * (3600 : Int32)) := by
    unfold c0_reckonedPart_v
    rw [e8, e0]
  refine ⟨er.trans (t2_partAt_eq hcap).symm, ?_⟩
  rw [er]
  have e := t2_full_i hcap
  have r := oc.2.2.1
  exact (t2_partOf_b r.1 (by rw [e]; have := r.2; omega)).2
theorem t2_off_b {f : t2_F} (I : c0_I f f) : ∀ k : Nat, k ≤ (f 280 2).toInt.toNat → 0 ≤ (t2_offA f k).toInt ∧ (t2_offA f k).toInt ≤ 1000 * (k : Int) := by
  have n16 := I.rhu.1
  intro k
  induction k with
  | zero =>
    intro _
    have z : (0 : Int32).toInt = 0 := rfl
    refine ⟨?_, ?_⟩
    · show 0 ≤ (0 : Int32).toInt
      omega
    · show (0 : Int32).toInt ≤ 1000 * ((0 : Nat) : Int)
      omega
  | succ k ih =>
    intro hk
    obtain ⟨a1, a2⟩ := ih (by omega)
    have r := (t2_off_r I (A := k) (by omega)).2
    have p : 0 ≤ (f (18 + 4 * k) 3).toInt ∧ (f (18 + 4 * k) 3).toInt ≤ 1000 := by
      rw [I.part (by omega) (0 : Int32)]
      exact t2_ckp (I.ck (by omega))
    have b := t2_abs_d r ⟨by omega, p.2⟩
    have h1 : 0 ≤ (t2_abs_v ((c0_reckonedPart_v f k) - (f (18 + 4 * k) 3))).toInt ∧ (t2_abs_v ((c0_reckonedPart_v f k) - (f (18 + 4 * k) 3))).toInt ≤ 1000 := by
      have s : ((c0_reckonedPart_v f k) - (f (18 + 4 * k) 3)).toInt = (c0_reckonedPart_v f k).toInt - (f (18 + 4 * k) 3).toInt := at_sub32 (by omega) (by omega)
      unfold t2_abs_v
      split
      · rw [Int32.toInt_neg, s, Int.bmod_eq_of_le (by omega) (by omega)]
        have c0 : (0 : Int32).toInt = 0 := rfl
        omega
      · have c0 : (0 : Int32).toInt = 0 := rfl
        omega
    show 0 ≤ (t2_offA f k + t2_abs_v ((c0_reckonedPart_v f k) - (f (18 + 4 * k) 3))).toInt ∧ (t2_offA f k + t2_abs_v ((c0_reckonedPart_v f k) - (f (18 + 4 * k) 3))).toInt ≤ 1000 * ((k + 1 : Nat) : Int)
    rw [at_add32 (by omega) (by omega)]
    omega
theorem x_off_q {L : Nat} {xs : Nat → Int32} {f : t2_F} {l : t2_L} {Q : Option fl_V → fl_M → Prop} (I : c0_I f f) (k : Q (some (.inl (t2_offV f))) (f, l)) : fl_Tq (pw_P L xs) 157 0 [some (.inr (.inr (.inl (0, 0)))), none, none] [] (f, l) Q := by
  have n16 := I.rhu.1
  have e5 : f 1 5 = f 280 2 := I.1.1.1
  unfold t2_offV at k
  refine x_off_A (fun h => ?_) (fun h => ?_)
  · rw [e5] at h
    rw [if_pos h] at k
    exact k
  · rw [e5] at h
    rw [if_neg h] at k
    refine t2_for (n := (f 280 2).toInt.toNat) (S := fun j => fl_Tq (pw_P L xs) 157 16 [some (.inr (.inr (.inl (0, 0)))), some (.inl (t2_offA f j)), some (.inl (Int32.ofNat j))] [] (f, l) Q) (fun j hj hS => ?_) ?_
    · have ej : (Int32.ofNat j).toInt = j := at_ofN (by omega)
      refine x_off_B (by omega) (by rw [ej, e5]; omega) ?_
      rw [t2_k1]
      exact hS
    · have ej : (Int32.ofNat (f 280 2).toInt.toNat).toInt = ((f 280 2).toInt.toNat : Nat) := at_ofN (by omega)
      refine x_off_C (by rw [ej, e5]; omega) ?_
      have b := t2_off_b I _ (Nat.le_refl _)
      generalize t2_offA f (f 280 2).toInt.toNat = S at *
      refine fl_Tq.stp rfl rfl (fl_bo rfl) rfl ?_
      refine fl_Tq.un (w := fl_f (FP.i2f S)) rfl rfl rfl (fun _ _ _ => rfl) ?_
      refine fl_Tq.stp rfl rfl (fl_bo rfl) rfl ?_
      refine fl_Tq.stp rfl rfl (fl_bo rfl) rfl ?_
      refine fl_Tq.stp rfl rfl (fl_bo rfl) rfl ?_
      show fl_Tq (pw_P L xs) 157 73 [some (.inr (.inr (.inl (0, 0)))), some (.inl S), some (.inl (Int32.ofNat (f 280 2).toInt.toNat))] [.inl (f 1 5), fl_f (FP.i2f S)] (f, l) Q
      rw [e5]
      refine fl_Tq.un (w := fl_f (FP.i2f (f 280 2))) rfl rfl rfl (fun _ _ _ => rfl) ?_
      have hx' : f 280 2 ≠ 0 := fun q => h (by rw [q]; rfl)
      have nn : vf_n32 (FP.fdiv (FP.i2f S) (FP.i2f (f 280 2))) := fp_div32 (fp_of_int32 S).1 ((fp_of_int32 _).2 hx').1 ((fp_of_int32 _).2 hx').2
      refine fl_Tq.bi (u := fl_f (FP.fdiv (FP.i2f S) (FP.i2f (f 280 2)))) rfl rfl rfl (fl_fbin (fun _ _ _ => rfl) nn) ?_
      refine fl_Tq.cal rfl rfl (fl_bo rfl) rfl ?_
      rcases fg_quo (s := S) (a := f 280 2) (S := S.toInt.toNat) (A := (f 280 2).toInt.toNat) (by omega) (by omega) (by omega) (by omega) (by omega) with ⟨-, e⟩ | ⟨E, T, g1, g2, g3, e⟩
      · rw [e] at k ⊢
        refine fg_182z ?_
        exact fl_Tq.ret rfl rfl rfl k
      · rw [e] at k ⊢
        refine fg_182 g1 g2 g3 ?_
        exact fl_Tq.ret rfl rfl rfl k
theorem y_off_q {L : Nat} {xs : Nat → Int32} {f : t2_F} {l : t2_L} {Q : Option fl_V → fl_M → Prop} (I : c0_I f f) (k : Q (some (.inl (t2_offV f))) (f, l)) : fl_Tq (pw_P L xs) 293 0 [some (.inr (.inr (.inl (76, 277)))), none, none] [] (f, l) Q := by
  have n16 := I.rhu.1
  unfold t2_offV at k
  refine y_off_A ?_
  refine t2_for (n := (f 280 2).toInt.toNat) (S := fun j => fl_Tq (pw_P L xs) 293 4 [some (.inr (.inr (.inl (76, 277)))), some (.inl (t2_offA f j)), some (.inl (Int32.ofNat j))] [] (f, l) Q) (fun j hj hS => ?_) ?_
  · have ej : (Int32.ofNat j).toInt = j := at_ofN (by omega)
    refine y_off_B (by omega) (by omega) (by rw [ej]; omega) I.rhu.2 ?_
    rw [t2_k1]
    have e : t2_offA f j + r_size_v ((((1000 : Int64) * ((f 280 (444 + 61 * j + 4)).toInt64)) / (((3600 : Int32) * (f 280 (444 + 61 * j + 0))).toInt64)).toInt32 - (r_partOf_v f (Int32.ofNat j) j)) = t2_offA f (j + 1) := by
      rw [← (t2_off_r I hj).1, ← I.part hj (Int32.ofNat j)]
      rfl
    rw [e]
    exact hS
  · have ej : (Int32.ofNat (f 280 2).toInt.toNat).toInt = ((f 280 2).toInt.toNat : Nat) := at_ofN (by omega)
    refine y_off_C (by rw [ej]; omega) ?_
    refine y_off_D (fun h => ?_) (fun h => ?_)
    · rw [if_pos h] at k
      exact k
    · rw [if_neg h] at k
      have b := t2_off_b I _ (Nat.le_refl _)
      generalize t2_offA f (f 280 2).toInt.toNat = S at *
      refine fl_Tq.stp rfl rfl (fl_bo rfl) rfl ?_
      refine fl_Tq.un (w := fl_f (FP.i2f S)) rfl rfl rfl (fun _ _ _ => rfl) ?_
      refine fl_Tq.stp rfl rfl (fl_bo rfl) rfl ?_
      refine fl_Tq.stp rfl rfl (fl_bo rfl) rfl ?_
      refine fl_Tq.stp rfl rfl (fl_bo rfl) rfl ?_
      refine fl_Tq.ld (p := 280) (τ := 79) (n := 29780) (z := (0, 0, 0)) (k := 2) rfl (fl_bo rfl) rfl rfl (by decide) ?_
      refine fl_Tq.un (w := fl_f (FP.i2f (f 280 2))) rfl rfl rfl (fun _ _ _ => rfl) ?_
      have hx' : f 280 2 ≠ 0 := fun q => h (by rw [q]; rfl)
      have nn : vf_n32 (FP.fdiv (FP.i2f S) (FP.i2f (f 280 2))) := fp_div32 (fp_of_int32 S).1 ((fp_of_int32 _).2 hx').1 ((fp_of_int32 _).2 hx').2
      refine fl_Tq.bi (u := fl_f (FP.fdiv (FP.i2f S) (FP.i2f (f 280 2)))) rfl rfl rfl (fl_fbin (fun _ _ _ => rfl) nn) ?_
      refine fl_Tq.cal rfl rfl (fl_bo rfl) rfl ?_
      rcases fg_quo (s := S) (a := f 280 2) (S := S.toInt.toNat) (A := (f 280 2).toInt.toNat) (by omega) (by omega) (by omega) (by omega) (by omega) with ⟨-, e⟩ | ⟨E, T, g1, g2, g3, e⟩
      · rw [e] at k ⊢
        refine fg_329 (by decide +kernel) ?_
        exact fl_Tq.ret rfl rfl rfl k
      · rw [e] at k ⊢
        refine fg_329 (fg_self (by omega) (by omega) g3) ?_
        exact fl_Tq.ret rfl rfl rfl k
theorem t2_cmp_Y {L : Nat} {xs : Nat → Int32} {f : t2_F} {l : t2_L} (_hall : ∀ c ∈ at_CM ++ at_CA, at_Valid at_XI (pw_P L xs) c) (hg : t2_Z (f, l)) : fl_Tq (pw_P L xs) 157 0 (fl_args (am_mxl (pw_P L xs) 157) [lx_x]) [] (f, l) (t2_End L xs 293 [at_this]) := by
  have I : c0_I f f := hg.2.1
  show fl_Tq (pw_P L xs) 157 0 [some (.inr (.inr (.inl (0, 0)))), none, none] [] (f, l) _
  refine x_off_q I ⟨⟨_, rfl⟩, ?_⟩
  show fl_Tq (pw_P L xs) 293 0 [some (.inr (.inr (.inl (76, 277)))), none, none] [] (f, l) _
  exact y_off_q I ⟨rfl, hg⟩
