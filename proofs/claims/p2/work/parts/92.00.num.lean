/-! ===== what the two programs reckon alike: numbers ===== -/
theorem t2_msb (x : Int32) : x.toBitVec.msb = decide (x.toInt < 0) := BitVec.msb_eq_toInt
theorem t2_xs {x y : Int32} (hy : 0 ≤ y.toInt) : (x ^^^ y).toInt < 0 ↔ x.toInt < 0 := by
  have h1 := t2_msb (x ^^^ y)
  have h2 := t2_msb x
  have h3 := t2_msb y
  rw [decide_eq_false (by omega)] at h3
  have e : (x ^^^ y).toBitVec = x.toBitVec ^^^ y.toBitVec := rfl
  rw [e, BitVec.msb_xor, h2, h3, Bool.xor_false] at h1
  constructor
  · intro h
    rw [decide_eq_true h] at h1
    exact of_decide_eq_true h1
  · intro h
    rw [decide_eq_true h] at h1
    exact of_decide_eq_true h1.symm
theorem t2_divn {x y : Int32} (hx : x.toInt < 0) (hy : 0 < y.toInt) : (x / y).toInt = -((-x.toInt) / y.toInt) := by
  have b := at_i32 x
  generalize hn : -x.toInt = n
  have hx' : x.toInt = -n := by omega
  rw [Int32.toInt_div, hx', Int.neg_tdiv, Int.tdiv_eq_ediv_of_nonneg (by omega)]
  have h1 : n / y.toInt ≤ n := Int.ediv_le_self _ (by omega)
  have h2 : 0 ≤ n / y.toInt := Int.ediv_nonneg (by omega) (by omega)
  exact Int.bmod_eq_of_le (by omega) (by omega)
theorem t2_flo1000 {x : Int32} (h : -2147482000 ≤ x.toInt) : r_floor_v x (1000 : Int32) = t2_fdiv_v x (1000 : Int32) := by
  have e : (1000 : Int32).toInt = 1000 := by decide +kernel
  have e1 : (1 : Int32).toInt = 1 := by decide +kernel
  unfold r_floor_v t2_fdiv_v
  by_cases hx : x.toInt < 0
  · rw [if_pos hx, if_pos ((t2_xs (by omega)).mpr hx)]
    have d := t2_divn hx (show 0 < (1000 : Int32).toInt by omega)
    rw [e] at d
    have b1 : ((1000 : Int32) - (1 : Int32)).toInt = 999 := by decide +kernel
    have b2 : ((1000 : Int32) - (1 : Int32) - x).toInt = 999 - x.toInt := by rw [at_sub32] <;> rw [b1] <;> omega
    have d2 := at_div32 (x := (1000 : Int32) - (1 : Int32) - x) (y := (1000 : Int32)) (by omega) (by omega)
    rw [b2, e] at d2
    have m : ((x / (1000 : Int32)) * (1000 : Int32)).toInt = (x / (1000 : Int32)).toInt * 1000 := by rw [at_mul32] <;> rw [e] <;> omega
    have ng : (-(((1000 : Int32) - (1 : Int32) - x) / (1000 : Int32))).toInt = -((999 - x.toInt) / 1000) := by
      rw [Int32.toInt_neg, d2]
      exact Int.bmod_eq_of_le (by omega) (by omega)
    refine Int32.toInt.inj ?_
    rw [ng]
    split
    · rename_i h1
      rw [m, d] at h1
      rw [d]
      omega
    · rename_i h1
      rw [m, d] at h1
      rw [at_sub32] <;> rw [d, e1] <;> omega
  · rw [if_neg hx, if_neg (fun h' => hx ((t2_xs (by omega)).mp h'))]
theorem t2_flo2 {x : Int32} (h : -2147482000 ≤ x.toInt) : r_floor_v x (2 : Int32) = t2_fdiv_v x (2 : Int32) := by
  have e : (2 : Int32).toInt = 2 := by decide +kernel
  have e1 : (1 : Int32).toInt = 1 := by decide +kernel
  unfold r_floor_v t2_fdiv_v
  by_cases hx : x.toInt < 0
  · rw [if_pos hx, if_pos ((t2_xs (by omega)).mpr hx)]
    have d := t2_divn hx (show 0 < (2 : Int32).toInt by omega)
    rw [e] at d
    have b1 : ((2 : Int32) - (1 : Int32)).toInt = 1 := by decide +kernel
    have b2 : ((2 : Int32) - (1 : Int32) - x).toInt = 1 - x.toInt := by rw [at_sub32] <;> rw [b1] <;> omega
    have d2 := at_div32 (x := (2 : Int32) - (1 : Int32) - x) (y := (2 : Int32)) (by omega) (by omega)
    rw [b2, e] at d2
    have m : ((x / (2 : Int32)) * (2 : Int32)).toInt = (x / (2 : Int32)).toInt * 2 := by rw [at_mul32] <;> rw [e] <;> omega
    have ng : (-(((2 : Int32) - (1 : Int32) - x) / (2 : Int32))).toInt = -((1 - x.toInt) / 2) := by
      rw [Int32.toInt_neg, d2]
      exact Int.bmod_eq_of_le (by omega) (by omega)
    refine Int32.toInt.inj ?_
    rw [ng]
    split
    · rename_i h1
      rw [m, d] at h1
      rw [d]
      omega
    · rename_i h1
      rw [m, d] at h1
      rw [at_sub32] <;> rw [d, e1] <;> omega
  · rw [if_neg hx, if_neg (fun h' => hx ((t2_xs (by omega)).mp h'))]
theorem t2_les (x y : Int32) : r_lesser_v x y = t2_min_v x y := by
  unfold r_lesser_v t2_min_v
  by_cases h : x.toInt < y.toInt
  · rw [if_pos h, if_neg (by omega)]
  · by_cases h2 : y.toInt < x.toInt
    · rw [if_neg h, if_pos h2]
    · rw [if_neg h, if_neg h2]
      exact Int32.toInt.inj (by omega)
theorem t2_min_i (x y : Int32) : (t2_min_v x y).toInt = min x.toInt y.toInt := by
  unfold t2_min_v
  split <;> omega
theorem t2_max_i (x y : Int32) : (t2_max_v x y).toInt = max x.toInt y.toInt := by
  unfold t2_max_v
  split <;> omega
theorem t2_min_c (x y : Int32) : t2_min_v x y = t2_min_v y x := Int32.toInt.inj (by rw [t2_min_i, t2_min_i]; omega)
theorem t2_min_a (x y z : Int32) : t2_min_v (t2_min_v x y) z = t2_min_v x (t2_min_v y z) := Int32.toInt.inj (by simp only [t2_min_i]; omega)
theorem t2_m32 (x y : Int32) : x * y = y * x := Int32.mul_comm x y
theorem t2_lim1 (a b : Int32) : t2_max_v (0 : Int32) (t2_min_v (2147483647 : Int32) (t2_min_v a b)) = if (t2_min_v a b).toInt < 0 then (0 : Int32) else t2_min_v a b := by
  have e0 : (0 : Int32).toInt = 0 := rfl
  have e1 : (2147483647 : Int32).toInt = 2147483647 := by decide +kernel
  have ha := at_i32 a
  have hm := t2_min_i a b
  generalize t2_min_v a b = q at hm
  have hq := at_i32 q
  refine Int32.toInt.inj ?_
  rw [t2_max_i, t2_min_i, e0, e1]
  split
  · rw [e0]
    omega
  · omega
theorem t2_lim2 (a b z : Int32) : t2_max_v (0 : Int32) (t2_min_v z (t2_min_v a b)) = if (t2_min_v (t2_min_v a b) z).toInt < 0 then (0 : Int32) else t2_min_v (t2_min_v a b) z := by
  have e0 : (0 : Int32).toInt = 0 := rfl
  refine Int32.toInt.inj ?_
  rw [t2_max_i, t2_min_c z, e0]
  split
  · rw [e0]
    omega
  · omega
theorem t2_lim3 {z : Int32} (hz : 0 ≤ z.toInt) : (0 : Int32) = if (t2_min_v (0 : Int32) z).toInt < 0 then (0 : Int32) else t2_min_v (0 : Int32) z := by
  have e0 : (0 : Int32).toInt = 0 := rfl
  refine Int32.toInt.inj ?_
  have h := t2_min_i (0 : Int32) z
  split
  · rfl
  · omega
