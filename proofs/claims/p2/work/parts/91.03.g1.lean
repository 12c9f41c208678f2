noncomputable def t2_min_v (x y : Int32) : Int32 := if y.toInt < x.toInt then y else x
theorem t2_min_q {L : Nat} {xs : Nat → Int32} {f : t2_F} {l : t2_L} {Q : Option fl_V → fl_M → Prop} {x y : Int32}  (k : Q (some (.inl (t2_min_v x y))) (f, l)) : fl_Tq (pw_P L xs) 335 0 (fl_args (am_mxl (pw_P L xs) 335) [.inl x, .inl y]) [] (f, l) Q := by
  refine fl_Tq.stp (pc' := 1) (lv' := [some (.inl x), some (.inl y)]) (st' := [.inl x]) (m' := (f, l)) rfl rfl (fl_bo rfl) rfl ?_
  refine fl_Tq.stp (pc' := 2) (lv' := [some (.inl x), some (.inl y)]) (st' := [.inl y, .inl x]) (m' := (f, l)) rfl rfl (fl_bo rfl) rfl ?_
  have hj1 : fl_Tq (pw_P L xs) 335 10 [some (.inl x), some (.inl y)] [.inl (if y.toInt < x.toInt then y else x)] (f, l) Q → fl_Tq (pw_P L xs) 335 2 [some (.inl x), some (.inl y)] [.inl y, .inl x] (f, l) Q := by
    intro hJ
    by_cases h1 : y.toInt < x.toInt
    · refine fl_Tq.jt rfl (fl_bo rfl) (c2_gt_t h1) rfl ?_
      refine fl_Tq.stp (pc' := 10) (lv' := [some (.inl x), some (.inl y)]) (st' := [.inl y]) (m' := (f, l)) rfl rfl (fl_bo rfl) rfl ?_
      have e0 : (if y.toInt < x.toInt then y else x) = y := by simp only [if_pos h1]
      rw [e0] at hJ
      exact hJ
    · refine fl_Tq.jf rfl (fl_bo rfl) (c2_gt_f h1) rfl ?_
      refine fl_Tq.stp (pc' := 6) (lv' := [some (.inl x), some (.inl y)]) (st' := [.inl x]) (m' := (f, l)) rfl rfl (fl_bo rfl) rfl ?_
      refine fl_Tq.stp (pc' := 10) (lv' := [some (.inl x), some (.inl y)]) (st' := [.inl x]) (m' := (f, l)) rfl rfl (fl_bo rfl) rfl ?_
      have e0 : (if y.toInt < x.toInt then y else x) = x := by simp only [if_neg h1]
      rw [e0] at hJ
      exact hJ
  refine hj1 ?_
  show fl_Tq _ 335 10 [some (.inl x), some (.inl y)] [.inl (if y.toInt < x.toInt then y else x)] (f, l) _
  exact fl_Tq.ret rfl rfl rfl k
noncomputable def t2_max_v (x y : Int32) : Int32 := if x.toInt < y.toInt then y else x
theorem t2_max_q {L : Nat} {xs : Nat → Int32} {f : t2_F} {l : t2_L} {Q : Option fl_V → fl_M → Prop} {x y : Int32}  (k : Q (some (.inl (t2_max_v x y))) (f, l)) : fl_Tq (pw_P L xs) 334 0 (fl_args (am_mxl (pw_P L xs) 334) [.inl x, .inl y]) [] (f, l) Q := by
  refine fl_Tq.stp (pc' := 1) (lv' := [some (.inl x), some (.inl y)]) (st' := [.inl x]) (m' := (f, l)) rfl rfl (fl_bo rfl) rfl ?_
  refine fl_Tq.stp (pc' := 2) (lv' := [some (.inl x), some (.inl y)]) (st' := [.inl y, .inl x]) (m' := (f, l)) rfl rfl (fl_bo rfl) rfl ?_
  have hj2 : fl_Tq (pw_P L xs) 334 10 [some (.inl x), some (.inl y)] [.inl (if x.toInt < y.toInt then y else x)] (f, l) Q → fl_Tq (pw_P L xs) 334 2 [some (.inl x), some (.inl y)] [.inl y, .inl x] (f, l) Q := by
    intro hJ
    by_cases h1 : x.toInt < y.toInt
    · refine fl_Tq.jt rfl (fl_bo rfl) (c2_lt_t h1) rfl ?_
      refine fl_Tq.stp (pc' := 10) (lv' := [some (.inl x), some (.inl y)]) (st' := [.inl y]) (m' := (f, l)) rfl rfl (fl_bo rfl) rfl ?_
      have e0 : (if x.toInt < y.toInt then y else x) = y := by simp only [if_pos h1]
      rw [e0] at hJ
      exact hJ
    · refine fl_Tq.jf rfl (fl_bo rfl) (c2_lt_f h1) rfl ?_
      refine fl_Tq.stp (pc' := 6) (lv' := [some (.inl x), some (.inl y)]) (st' := [.inl x]) (m' := (f, l)) rfl rfl (fl_bo rfl) rfl ?_
      refine fl_Tq.stp (pc' := 10) (lv' := [some (.inl x), some (.inl y)]) (st' := [.inl x]) (m' := (f, l)) rfl rfl (fl_bo rfl) rfl ?_
      have e0 : (if x.toInt < y.toInt then y else x) = x := by simp only [if_neg h1]
      rw [e0] at hJ
      exact hJ
  refine hj2 ?_
  show fl_Tq _ 334 10 [some (.inl x), some (.inl y)] [.inl (if x.toInt < y.toInt then y else x)] (f, l) _
  exact fl_Tq.ret rfl rfl rfl k
noncomputable def t2_abs_v (x : Int32) : Int32 := if x.toInt < 0 then -x else x
theorem t2_abs_q {L : Nat} {xs : Nat → Int32} {f : t2_F} {l : t2_L} {Q : Option fl_V → fl_M → Prop} {x : Int32}  (k : Q (some (.inl (t2_abs_v x))) (f, l)) : fl_Tq (pw_P L xs) 333 0 (fl_args (am_mxl (pw_P L xs) 333) [.inl x]) [] (f, l) Q := by
  refine fl_Tq.stp (pc' := 1) (lv' := [some (.inl x)]) (st' := [.inl x]) (m' := (f, l)) rfl rfl (fl_bo rfl) rfl ?_
  have hj3 : fl_Tq (pw_P L xs) 333 10 [some (.inl x)] [.inl (if x.toInt < 0 then -x else x)] (f, l) Q → fl_Tq (pw_P L xs) 333 1 [some (.inl x)] [.inl x] (f, l) Q := by
    intro hJ
    by_cases h1 : x.toInt < 0
    · refine fl_Tq.zf rfl (fl_bo rfl) (c1_ge_f h1) rfl ?_
      refine fl_Tq.stp (pc' := 5) (lv' := [some (.inl x)]) (st' := [.inl x]) (m' := (f, l)) rfl rfl (fl_bo rfl) rfl ?_
      refine fl_Tq.stp (pc' := 6) (lv' := [some (.inl x)]) (st' := [.inl (-x)]) (m' := (f, l)) rfl rfl (fl_bo rfl) rfl ?_
      refine fl_Tq.stp (pc' := 10) (lv' := [some (.inl x)]) (st' := [.inl (-x)]) (m' := (f, l)) rfl rfl (fl_bo rfl) rfl ?_
      have e0 : (if x.toInt < 0 then -x else x) = -x := by simp only [if_pos h1]
      rw [e0] at hJ
      exact hJ
    · refine fl_Tq.zt rfl (fl_bo rfl) (c1_ge_t h1) rfl ?_
      refine fl_Tq.stp (pc' := 10) (lv' := [some (.inl x)]) (st' := [.inl x]) (m' := (f, l)) rfl rfl (fl_bo rfl) rfl ?_
      have e0 : (if x.toInt < 0 then -x else x) = x := by simp only [if_neg h1]
      rw [e0] at hJ
      exact hJ
  refine hj3 ?_
  show fl_Tq _ 333 10 [some (.inl x)] [.inl (if x.toInt < 0 then -x else x)] (f, l) _
  exact fl_Tq.ret rfl rfl rfl k
noncomputable def t2_fdiv_v (x y : Int32) : Int32 := if (x ^^^ y).toInt < 0 then (if ((x / y) * y).toInt = x.toInt then x / y else (x / y) - (1 : Int32)) else x / y
theorem t2_fdiv_q {L : Nat} {xs : Nat → Int32} {f : t2_F} {l : t2_L} {Q : Option fl_V → fl_M → Prop} {x y : Int32} (hy : y ≠ 0) (k : Q (some (.inl (t2_fdiv_v x y))) (f, l)) : fl_Tq (pw_P L xs) 332 0 (fl_args (am_mxl (pw_P L xs) 332) [.inl x, .inl y]) [] (f, l) Q := by
  refine fl_Tq.stp (pc' := 1) (lv' := [some (.inl x), some (.inl y), none]) (st' := [.inl x]) (m' := (f, l)) rfl rfl (fl_bo rfl) rfl ?_
  refine fl_Tq.stp (pc' := 2) (lv' := [some (.inl x), some (.inl y), none]) (st' := [.inl y, .inl x]) (m' := (f, l)) rfl rfl (fl_bo rfl) rfl ?_
  refine fl_Tq.dv rfl (fl_bo rfl) hy ?_
  refine fl_Tq.stp (pc' := 4) (lv' := [some (.inl x), some (.inl y), some (.inl (x / y))]) (st' := []) (m' := (f, l)) rfl rfl (fl_bo rfl) rfl ?_
  refine fl_Tq.stp (pc' := 5) (lv' := [some (.inl x), some (.inl y), some (.inl (x / y))]) (st' := [.inl x]) (m' := (f, l)) rfl rfl (fl_bo rfl) rfl ?_
  refine fl_Tq.stp (pc' := 6) (lv' := [some (.inl x), some (.inl y), some (.inl (x / y))]) (st' := [.inl y, .inl x]) (m' := (f, l)) rfl rfl (fl_bo rfl) rfl ?_
  refine fl_Tq.stp (pc' := 7) (lv' := [some (.inl x), some (.inl y), some (.inl (x / y))]) (st' := [.inl (x ^^^ y)]) (m' := (f, l)) rfl rfl (fl_bo rfl) rfl ?_
  by_cases h1 : (x ^^^ y).toInt < 0
  · refine fl_Tq.zf rfl (fl_bo rfl) (c1_ge_f h1) rfl ?_
    refine fl_Tq.stp (pc' := 11) (lv' := [some (.inl x), some (.inl y), some (.inl (x / y))]) (st' := [.inl (x / y)]) (m' := (f, l)) rfl rfl (fl_bo rfl) rfl ?_
    refine fl_Tq.stp (pc' := 12) (lv' := [some (.inl x), some (.inl y), some (.inl (x / y))]) (st' := [.inl y, .inl (x / y)]) (m' := (f, l)) rfl rfl (fl_bo rfl) rfl ?_
    refine fl_Tq.stp (pc' := 13) (lv' := [some (.inl x), some (.inl y), some (.inl (x / y))]) (st' := [.inl ((x / y) * y)]) (m' := (f, l)) rfl rfl (fl_bo rfl) rfl ?_
    refine fl_Tq.stp (pc' := 14) (lv' := [some (.inl x), some (.inl y), some (.inl (x / y))]) (st' := [.inl x, .inl ((x / y) * y)]) (m' := (f, l)) rfl rfl (fl_bo rfl) rfl ?_
    by_cases h2 : ((x / y) * y).toInt = x.toInt
    · refine fl_Tq.jt rfl (fl_bo rfl) (c2_eq_t h2) rfl ?_
      refine fl_Tq.stp (pc' := 22) (lv' := [some (.inl x), some (.inl y), some (.inl (x / y))]) (st' := [.inl (x / y)]) (m' := (f, l)) rfl rfl (fl_bo rfl) rfl ?_
      refine fl_Tq.ret rfl rfl rfl ?_
      unfold t2_fdiv_v at k
      simp only [if_pos h1, if_pos h2] at k
      exact k
    · refine fl_Tq.jf rfl (fl_bo rfl) (c2_eq_f h2) rfl ?_
      refine fl_Tq.stp (pc' := 18) (lv' := [some (.inl x), some (.inl y), some (.inl (x / y))]) (st' := [.inl (x / y)]) (m' := (f, l)) rfl rfl (fl_bo rfl) rfl ?_
      refine fl_Tq.cI (c := (1 : Int32)) rfl (by decide +kernel) (fl_bo rfl) ?_
      refine fl_Tq.stp (pc' := 20) (lv' := [some (.inl x), some (.inl y), some (.inl (x / y))]) (st' := [.inl ((x / y) - (1 : Int32))]) (m' := (f, l)) rfl rfl (fl_bo rfl) rfl ?_
      refine fl_Tq.ret rfl rfl rfl ?_
      unfold t2_fdiv_v at k
      simp only [if_pos h1, if_neg h2] at k
      exact k
  · refine fl_Tq.zt rfl (fl_bo rfl) (c1_ge_t h1) rfl ?_
    refine fl_Tq.stp (pc' := 22) (lv' := [some (.inl x), some (.inl y), some (.inl (x / y))]) (st' := [.inl (x / y)]) (m' := (f, l)) rfl rfl (fl_bo rfl) rfl ?_
    refine fl_Tq.ret rfl rfl rfl ?_
    unfold t2_fdiv_v at k
    simp only [if_neg h1] at k
    exact k
noncomputable def t2_within_v (x lo hi : Int32) : Int32 := if x.toInt < lo.toInt then (0 : Int32) else (if hi.toInt < x.toInt then (0 : Int32) else (1 : Int32))
theorem t2_within_q {L : Nat} {xs : Nat → Int32} {f : t2_F} {l : t2_L} {Q : Option fl_V → fl_M → Prop} {x lo hi : Int32}  (k : Q (some (.inl (t2_within_v x lo hi))) (f, l)) : fl_Tq (pw_P L xs) 173 0 (fl_args (am_mxl (pw_P L xs) 173) [.inl x, .inl lo, .inl hi]) [] (f, l) Q := by
  refine fl_Tq.stp (pc' := 1) (lv' := [some (.inl x), some (.inl lo), some (.inl hi)]) (st' := [.inl x]) (m' := (f, l)) rfl rfl (fl_bo rfl) rfl ?_
  refine fl_Tq.stp (pc' := 2) (lv' := [some (.inl x), some (.inl lo), some (.inl hi)]) (st' := [.inl lo, .inl x]) (m' := (f, l)) rfl rfl (fl_bo rfl) rfl ?_
  by_cases h1 : x.toInt < lo.toInt
  · refine fl_Tq.jt rfl (fl_bo rfl) (c2_lt_t h1) rfl ?_
    refine fl_Tq.cI (c := (0 : Int32)) rfl (by decide +kernel) (fl_bo rfl) ?_
    refine fl_Tq.ret rfl rfl rfl ?_
    unfold t2_within_v at k
    simp only [if_pos h1] at k
    exact k
  · refine fl_Tq.jf rfl (fl_bo rfl) (c2_lt_f h1) rfl ?_
    refine fl_Tq.stp (pc' := 6) (lv' := [some (.inl x), some (.inl lo), some (.inl hi)]) (st' := [.inl x]) (m' := (f, l)) rfl rfl (fl_bo rfl) rfl ?_
    refine fl_Tq.stp (pc' := 7) (lv' := [some (.inl x), some (.inl lo), some (.inl hi)]) (st' := [.inl hi, .inl x]) (m' := (f, l)) rfl rfl (fl_bo rfl) rfl ?_
    by_cases h2 : hi.toInt < x.toInt
    · refine fl_Tq.jt rfl (fl_bo rfl) (c2_gt_t h2) rfl ?_
      refine fl_Tq.cI (c := (0 : Int32)) rfl (by decide +kernel) (fl_bo rfl) ?_
      refine fl_Tq.ret rfl rfl rfl ?_
      unfold t2_within_v at k
      simp only [if_neg h1, if_pos h2] at k
      exact k
    · refine fl_Tq.jf rfl (fl_bo rfl) (c2_gt_f h2) rfl ?_
      refine fl_Tq.cI (c := (1 : Int32)) rfl (by decide +kernel) (fl_bo rfl) ?_
      refine fl_Tq.stp (pc' := 15) (lv' := [some (.inl x), some (.inl lo), some (.inl hi)]) (st' := [.inl (1 : Int32)]) (m' := (f, l)) rfl rfl (fl_bo rfl) rfl ?_
      refine fl_Tq.ret rfl rfl rfl ?_
      unfold t2_within_v at k
      simp only [if_neg h1, if_neg h2] at k
      exact k
noncomputable def t2_heldTo_v (x lo hi : Int32) : Int32 := if x.toInt < lo.toInt then lo else (if hi.toInt < x.toInt then hi else x)
theorem t2_heldTo_q {L : Nat} {xs : Nat → Int32} {f : t2_F} {l : t2_L} {Q : Option fl_V → fl_M → Prop} {x lo hi : Int32}  (k : Q (some (.inl (t2_heldTo_v x lo hi))) (f, l)) : fl_Tq (pw_P L xs) 175 0 (fl_args (am_mxl (pw_P L xs) 175) [.inl x, .inl lo, .inl hi]) [] (f, l) Q := by
  refine fl_Tq.stp (pc' := 1) (lv' := [some (.inl x), some (.inl lo), some (.inl hi)]) (st' := [.inl x]) (m' := (f, l)) rfl rfl (fl_bo rfl) rfl ?_
  refine fl_Tq.stp (pc' := 2) (lv' := [some (.inl x), some (.inl lo), some (.inl hi)]) (st' := [.inl lo, .inl x]) (m' := (f, l)) rfl rfl (fl_bo rfl) rfl ?_
  by_cases h1 : x.toInt < lo.toInt
  · refine fl_Tq.jf rfl (fl_bo rfl) (c2_ge_f h1) rfl ?_
    refine fl_Tq.stp (pc' := 6) (lv' := [some (.inl x), some (.inl lo), some (.inl hi)]) (st' := [.inl lo]) (m' := (f, l)) rfl rfl (fl_bo rfl) rfl ?_
    refine fl_Tq.ret rfl rfl rfl ?_
    unfold t2_heldTo_v at k
    simp only [if_pos h1] at k
    exact k
  · refine fl_Tq.jt rfl (fl_bo rfl) (c2_ge_t h1) rfl ?_
    refine fl_Tq.stp (pc' := 8) (lv' := [some (.inl x), some (.inl lo), some (.inl hi)]) (st' := [.inl x]) (m' := (f, l)) rfl rfl (fl_bo rfl) rfl ?_
    refine fl_Tq.stp (pc' := 9) (lv' := [some (.inl x), some (.inl lo), some (.inl hi)]) (st' := [.inl hi, .inl x]) (m' := (f, l)) rfl rfl (fl_bo rfl) rfl ?_
    have hj4 : fl_Tq (pw_P L xs) 175 17 [some (.inl x), some (.inl lo), some (.inl hi)] [.inl (if hi.toInt < x.toInt then hi else x)] (f, l) Q → fl_Tq (pw_P L xs) 175 9 [some (.inl x), some (.inl lo), some (.inl hi)] [.inl hi, .inl x] (f, l) Q := by
      intro hJ
      by_cases h2 : hi.toInt < x.toInt
      · refine fl_Tq.jf rfl (fl_bo rfl) (c2_le_f h2) rfl ?_
        refine fl_Tq.stp (pc' := 13) (lv' := [some (.inl x), some (.inl lo), some (.inl hi)]) (st' := [.inl hi]) (m' := (f, l)) rfl rfl (fl_bo rfl) rfl ?_
        refine fl_Tq.stp (pc' := 17) (lv' := [some (.inl x), some (.inl lo), some (.inl hi)]) (st' := [.inl hi]) (m' := (f, l)) rfl rfl (fl_bo rfl) rfl ?_
        have e0 : (if hi.toInt < x.toInt then hi else x) = hi := by simp only [if_pos h2]
        rw [e0] at hJ
        exact hJ
      · refine fl_Tq.jt rfl (fl_bo rfl) (c2_le_t h2) rfl ?_
        refine fl_Tq.stp (pc' := 17) (lv' := [some (.inl x), some (.inl lo), some (.inl hi)]) (st' := [.inl x]) (m' := (f, l)) rfl rfl (fl_bo rfl) rfl ?_
        have e0 : (if hi.toInt < x.toInt then hi else x) = x := by simp only [if_neg h2]
        rw [e0] at hJ
        exact hJ
    refine hj4 ?_
    show fl_Tq _ 175 17 [some (.inl x), some (.inl lo), some (.inl hi)] [.inl (if hi.toInt < x.toInt then hi else x)] (f, l) _
    refine fl_Tq.ret rfl rfl rfl ?_
    unfold t2_heldTo_v at k
    simp only [if_neg h1] at k
    exact k
noncomputable def t2_chargeBy_v (p c : Int32) : Int32 := ((p * c) * (36 : Int32)) / (10 : Int32)
theorem t2_chargeBy_q {L : Nat} {xs : Nat → Int32} {f : t2_F} {l : t2_L} {Q : Option fl_V → fl_M → Prop} {p c : Int32}  (k : Q (some (.inl (t2_chargeBy_v p c))) (f, l)) : fl_Tq (pw_P L xs) 176 0 (fl_args (am_mxl (pw_P L xs) 176) [.inl p, .inl c]) [] (f, l) Q := by
  refine fl_Tq.stp (pc' := 1) (lv' := [some (.inl p), some (.inl c)]) (st' := [.inl p]) (m' := (f, l)) rfl rfl (fl_bo rfl) rfl ?_
  refine fl_Tq.stp (pc' := 2) (lv' := [some (.inl p), some (.inl c)]) (st' := [.inl c, .inl p]) (m' := (f, l)) rfl rfl (fl_bo rfl) rfl ?_
  refine fl_Tq.stp (pc' := 3) (lv' := [some (.inl p), some (.inl c)]) (st' := [.inl (p * c)]) (m' := (f, l)) rfl rfl (fl_bo rfl) rfl ?_
  refine fl_Tq.cB (c := (36 : Int32)) rfl (by decide +kernel) (fl_bo rfl) ?_
  refine fl_Tq.stp (pc' := 6) (lv' := [some (.inl p), some (.inl c)]) (st' := [.inl ((p * c) * (36 : Int32))]) (m' := (f, l)) rfl rfl (fl_bo rfl) rfl ?_
  refine fl_Tq.cB (c := (10 : Int32)) rfl (by decide +kernel) (fl_bo rfl) ?_
  refine fl_Tq.dv rfl (fl_bo rfl) (by decide +kernel) ?_
  exact fl_Tq.ret rfl rfl rfl k
noncomputable def t2_partOf_v (c x : Int32) : Int32 := if 0 < x.toInt then ((c.toInt64 * (1000 : Int64)) / x.toInt64).toInt32 else (0 : Int32)
theorem t2_partOf_q {L : Nat} {xs : Nat → Int32} {f : t2_F} {l : t2_L} {Q : Option fl_V → fl_M → Prop} {c x : Int32}  (k : Q (some (.inl (t2_partOf_v c x))) (f, l)) : fl_Tq (pw_P L xs) 177 0 (fl_args (am_mxl (pw_P L xs) 177) [.inl c, .inl x]) [] (f, l) Q := by
  refine fl_Tq.stp (pc' := 1) (lv' := [some (.inl c), some (.inl x)]) (st' := [.inl x]) (m' := (f, l)) rfl rfl (fl_bo rfl) rfl ?_
  have hj5 : fl_Tq (pw_P L xs) 177 18 [some (.inl c), some (.inl x)] [.inl (if 0 < x.toInt then ((c.toInt64 * (1000 : Int64)) / x.toInt64).toInt32 else (0 : Int32))] (f, l) Q → fl_Tq (pw_P L xs) 177 1 [some (.inl c), some (.inl x)] [.inl x] (f, l) Q := by
    intro hJ
    by_cases h1 : 0 < x.toInt
    · refine fl_Tq.zt rfl (fl_bo rfl) (c1_gt_t h1) rfl ?_
      refine fl_Tq.stp (pc' := 9) (lv' := [some (.inl c), some (.inl x)]) (st' := [.inl c]) (m' := (f, l)) rfl rfl (fl_bo rfl) rfl ?_
      refine fl_Tq.stp (pc' := 10) (lv' := [some (.inl c), some (.inl x)]) (st' := [.inr (.inl c.toInt64)]) (m' := (f, l)) rfl rfl (fl_bo rfl) rfl ?_
      refine fl_Tq.stp (pc' := 13) (lv' := [some (.inl c), some (.inl x)]) (st' := [.inr (.inl (1000 : Int64)), .inr (.inl c.toInt64)]) (m' := (f, l)) rfl rfl (fl_bo rfl) rfl ?_
      refine fl_Tq.stp (pc' := 14) (lv' := [some (.inl c), some (.inl x)]) (st' := [.inr (.inl (c.toInt64 * (1000 : Int64)))]) (m' := (f, l)) rfl rfl (fl_bo rfl) rfl ?_
      refine fl_Tq.stp (pc' := 15) (lv' := [some (.inl c), some (.inl x)]) (st' := [.inl x, .inr (.inl (c.toInt64 * (1000 : Int64)))]) (m' := (f, l)) rfl rfl (fl_bo rfl) rfl ?_
      refine fl_Tq.stp (pc' := 16) (lv' := [some (.inl c), some (.inl x)]) (st' := [.inr (.inl x.toInt64), .inr (.inl (c.toInt64 * (1000 : Int64)))]) (m' := (f, l)) rfl rfl (fl_bo rfl) rfl ?_
      refine fl_Tq.dvJ rfl (fl_bo rfl) (t2_nz64 (by omega)) ?_
      refine fl_Tq.stp (pc' := 18) (lv' := [some (.inl c), some (.inl x)]) (st' := [.inl (((c.toInt64 * (1000 : Int64)) / x.toInt64).toInt32)]) (m' := (f, l)) rfl rfl (fl_bo rfl) rfl ?_
      have e0 : (if 0 < x.toInt then ((c.toInt64 * (1000 : Int64)) / x.toInt64).toInt32 else (0 : Int32)) = ((c.toInt64 * (1000 : Int64)) / x.toInt64).toInt32 := by simp only [if_pos h1]
      rw [e0] at hJ
      exact hJ
    · refine fl_Tq.zf rfl (fl_bo rfl) (c1_gt_f h1) rfl ?_
      refine fl_Tq.cI (c := (0 : Int32)) rfl (by decide +kernel) (fl_bo rfl) ?_
      refine fl_Tq.stp (pc' := 18) (lv' := [some (.inl c), some (.inl x)]) (st' := [.inl (0 : Int32)]) (m' := (f, l)) rfl rfl (fl_bo rfl) rfl ?_
      have e0 : (if 0 < x.toInt then ((c.toInt64 * (1000 : Int64)) / x.toInt64).toInt32 else (0 : Int32)) = (0 : Int32) := by simp only [if_neg h1]
      rw [e0] at hJ
      exact hJ
  refine hj5 ?_
  show fl_Tq _ 177 18 [some (.inl c), some (.inl x)] [.inl (if 0 < x.toInt then ((c.toInt64 * (1000 : Int64)) / x.toInt64).toInt32 else (0 : Int32))] (f, l) _
  exact fl_Tq.ret rfl rfl rfl k
