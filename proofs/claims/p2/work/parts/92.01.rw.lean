theorem r_goBus_w2 {f : t2_F} (j : Nat) : r_goBus_m f 280 j = if j = 4 then r_goBus_j16_0 f else if j = 3 then (if (f 280 3).toInt = (1 : Int32).toInt then (if ((1000 : Int32) * (r_goBus_j16_0 f)).toInt < ((950 : Int32) * (r_packCalm_v f)).toInt then f 280 3 else (2 : Int32)) else f 280 3) else f 280 j := by
  unfold r_goBus_m
  by_cases h1 : (f 280 3).toInt = (1 : Int32).toInt
  · simp only [if_pos h1]
    by_cases h2 : ((1000 : Int32) * (r_goBus_j16_0 f)).toInt < ((950 : Int32) * (r_packCalm_v f)).toInt
    · simp only [if_pos h2]
      split
      all_goals
        simp only [fl_row_ne (by decide : (280 : Nat) ≠ 277), fl_row_self, upd]
        repeat' split
        all_goals first | rfl | simp_all
    · simp only [if_neg h2, fl_row_self, upd]
      repeat' split
      all_goals first | rfl | simp_all
  · simp only [if_neg h1, fl_row_ne (by decide : (280 : Nat) ≠ 277), fl_row_self, upd]
    repeat' split
    all_goals first | rfl | simp_all
