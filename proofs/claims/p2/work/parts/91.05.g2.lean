noncomputable def r_isIn_v (x lo hi : Int32) : Int32 := if x.toInt < lo.toInt then (0 : Int32) else (if hi.toInt < x.toInt then (0 : Int32) else (1 : Int32))
theorem r_isIn_q {L : Nat} {xs : Nat → Int32} {f : t2_F} {l : t2_L} {Q : Option fl_V → fl_M → Prop} {x lo hi : Int32}  (k : Q (some (.inl (r_isIn_v x lo hi))) (f, l)) : fl_Tq (pw_P L xs) 185 0 (fl_args (am_mxl (pw_P L xs) 185) [.inl x, .inl lo, .inl hi]) [] (f, l) Q := by
  refine fl_Tq.stp (pc' := 1) (lv' := [some (.inl x), some (.inl lo), some (.inl hi)]) (st' := [.inl x]) (m' := (f, l)) rfl rfl (fl_bo rfl) rfl ?_
  refine fl_Tq.stp (pc' := 2) (lv' := [some (.inl x), some (.inl lo), some (.inl hi)]) (st' := [.inl lo, .inl x]) (m' := (f, l)) rfl rfl (fl_bo rfl) rfl ?_
  by_cases h1 : x.toInt < lo.toInt
  · refine fl_Tq.jt rfl (fl_bo rfl) (c2_lt_t h1) rfl ?_
    refine fl_Tq.cI (c := (0 : Int32)) rfl (by decide +kernel) (fl_bo rfl) ?_
    refine fl_Tq.ret rfl rfl rfl ?_
    unfold r_isIn_v at k
    simp only [if_pos h1] at k
    exact k
  · refine fl_Tq.jf rfl (fl_bo rfl) (c2_lt_f h1) rfl ?_
    refine fl_Tq.stp (pc' := 6) (lv' := [some (.inl x), some (.inl lo), some (.inl hi)]) (st' := [.inl x]) (m' := (f, l)) rfl rfl (fl_bo rfl) rfl ?_
    refine fl_Tq.stp (pc' := 7) (lv' := [some (.inl x), some (.inl lo), some (.inl hi)]) (st' := [.inl hi, .inl x]) (m' := (f, l)) rfl rfl (fl_bo rfl) rfl ?_
    by_cases h2 : hi.toInt < x.toInt
    · refine fl_Tq.jt rfl (fl_bo rfl) (c2_gt_t h2) rfl ?_
      refine fl_Tq.cI (c := (0 : Int32)) rfl (by decide +kernel) (fl_bo rfl) ?_
      refine fl_Tq.ret rfl rfl rfl ?_
      unfold r_isIn_v at k
      simp only [if_neg h1, if_pos h2] at k
      exact k
    · refine fl_Tq.jf rfl (fl_bo rfl) (c2_gt_f h2) rfl ?_
      refine fl_Tq.cI (c := (1 : Int32)) rfl (by decide +kernel) (fl_bo rfl) ?_
      refine fl_Tq.stp (pc' := 15) (lv' := [some (.inl x), some (.inl lo), some (.inl hi)]) (st' := [.inl (1 : Int32)]) (m' := (f, l)) rfl rfl (fl_bo rfl) rfl ?_
      refine fl_Tq.ret rfl rfl rfl ?_
      unfold r_isIn_v at k
      simp only [if_neg h1, if_neg h2] at k
      exact k
noncomputable def r_held_v (x lo hi : Int32) : Int32 := if x.toInt < lo.toInt then lo else (if hi.toInt < x.toInt then hi else x)
theorem r_held_q {L : Nat} {xs : Nat → Int32} {f : t2_F} {l : t2_L} {Q : Option fl_V → fl_M → Prop} {x lo hi : Int32}  (k : Q (some (.inl (r_held_v x lo hi))) (f, l)) : fl_Tq (pw_P L xs) 186 0 (fl_args (am_mxl (pw_P L xs) 186) [.inl x, .inl lo, .inl hi]) [] (f, l) Q := by
  refine fl_Tq.stp (pc' := 1) (lv' := [some (.inl x), some (.inl lo), some (.inl hi)]) (st' := [.inl x]) (m' := (f, l)) rfl rfl (fl_bo rfl) rfl ?_
  refine fl_Tq.stp (pc' := 2) (lv' := [some (.inl x), some (.inl lo), some (.inl hi)]) (st' := [.inl lo, .inl x]) (m' := (f, l)) rfl rfl (fl_bo rfl) rfl ?_
  have hj15 : fl_Tq (pw_P L xs) 186 19 [some (.inl x), some (.inl lo), some (.inl hi)] [.inl (if x.toInt < lo.toInt then lo else (if hi.toInt < x.toInt then hi else x))] (f, l) Q → fl_Tq (pw_P L xs) 186 2 [some (.inl x), some (.inl lo), some (.inl hi)] [.inl lo, .inl x] (f, l) Q := by
    intro hJ
    by_cases h1 : x.toInt < lo.toInt
    · refine fl_Tq.jf rfl (fl_bo rfl) (c2_ge_f h1) rfl ?_
      refine fl_Tq.stp (pc' := 6) (lv' := [some (.inl x), some (.inl lo), some (.inl hi)]) (st' := [.inl lo]) (m' := (f, l)) rfl rfl (fl_bo rfl) rfl ?_
      refine fl_Tq.stp (pc' := 19) (lv' := [some (.inl x), some (.inl lo), some (.inl hi)]) (st' := [.inl lo]) (m' := (f, l)) rfl rfl (fl_bo rfl) rfl ?_
      have e0 : (if x.toInt < lo.toInt then lo else (if hi.toInt < x.toInt then hi else x)) = lo := by simp only [if_pos h1]
      rw [e0] at hJ
      exact hJ
    · refine fl_Tq.jt rfl (fl_bo rfl) (c2_ge_t h1) rfl ?_
      refine fl_Tq.stp (pc' := 10) (lv' := [some (.inl x), some (.inl lo), some (.inl hi)]) (st' := [.inl x]) (m' := (f, l)) rfl rfl (fl_bo rfl) rfl ?_
      refine fl_Tq.stp (pc' := 11) (lv' := [some (.inl x), some (.inl lo), some (.inl hi)]) (st' := [.inl hi, .inl x]) (m' := (f, l)) rfl rfl (fl_bo rfl) rfl ?_
      by_cases h2 : hi.toInt < x.toInt
      · refine fl_Tq.jf rfl (fl_bo rfl) (c2_le_f h2) rfl ?_
        refine fl_Tq.stp (pc' := 15) (lv' := [some (.inl x), some (.inl lo), some (.inl hi)]) (st' := [.inl hi]) (m' := (f, l)) rfl rfl (fl_bo rfl) rfl ?_
        refine fl_Tq.stp (pc' := 19) (lv' := [some (.inl x), some (.inl lo), some (.inl hi)]) (st' := [.inl hi]) (m' := (f, l)) rfl rfl (fl_bo rfl) rfl ?_
        have e0 : (if x.toInt < lo.toInt then lo else (if hi.toInt < x.toInt then hi else x)) = hi := by simp only [if_neg h1, if_pos h2]
        rw [e0] at hJ
        exact hJ
      · refine fl_Tq.jt rfl (fl_bo rfl) (c2_le_t h2) rfl ?_
        refine fl_Tq.stp (pc' := 19) (lv' := [some (.inl x), some (.inl lo), some (.inl hi)]) (st' := [.inl x]) (m' := (f, l)) rfl rfl (fl_bo rfl) rfl ?_
        have e0 : (if x.toInt < lo.toInt then lo else (if hi.toInt < x.toInt then hi else x)) = x := by simp only [if_neg h1, if_neg h2]
        rw [e0] at hJ
        exact hJ
  refine hj15 ?_
  show fl_Tq _ 186 19 [some (.inl x), some (.inl lo), some (.inl hi)] [.inl (if x.toInt < lo.toInt then lo else (if hi.toInt < x.toInt then hi else x))] (f, l) _
  exact fl_Tq.ret rfl rfl rfl k
noncomputable def r_lesser_v (x y : Int32) : Int32 := if x.toInt < y.toInt then x else y
theorem r_lesser_q {L : Nat} {xs : Nat → Int32} {f : t2_F} {l : t2_L} {Q : Option fl_V → fl_M → Prop} {x y : Int32}  (k : Q (some (.inl (r_lesser_v x y))) (f, l)) : fl_Tq (pw_P L xs) 187 0 (fl_args (am_mxl (pw_P L xs) 187) [.inl x, .inl y]) [] (f, l) Q := by
  refine fl_Tq.stp (pc' := 1) (lv' := [some (.inl x), some (.inl y)]) (st' := [.inl x]) (m' := (f, l)) rfl rfl (fl_bo rfl) rfl ?_
  refine fl_Tq.stp (pc' := 2) (lv' := [some (.inl x), some (.inl y)]) (st' := [.inl y, .inl x]) (m' := (f, l)) rfl rfl (fl_bo rfl) rfl ?_
  have hj16 : fl_Tq (pw_P L xs) 187 10 [some (.inl x), some (.inl y)] [.inl (if x.toInt < y.toInt then x else y)] (f, l) Q → fl_Tq (pw_P L xs) 187 2 [some (.inl x), some (.inl y)] [.inl y, .inl x] (f, l) Q := by
    intro hJ
    by_cases h1 : x.toInt < y.toInt
    · refine fl_Tq.jf rfl (fl_bo rfl) (c2_ge_f h1) rfl ?_
      refine fl_Tq.stp (pc' := 6) (lv' := [some (.inl x), some (.inl y)]) (st' := [.inl x]) (m' := (f, l)) rfl rfl (fl_bo rfl) rfl ?_
      refine fl_Tq.stp (pc' := 10) (lv' := [some (.inl x), some (.inl y)]) (st' := [.inl x]) (m' := (f, l)) rfl rfl (fl_bo rfl) rfl ?_
      have e0 : (if x.toInt < y.toInt then x else y) = x := by simp only [if_pos h1]
      rw [e0] at hJ
      exact hJ
    · refine fl_Tq.jt rfl (fl_bo rfl) (c2_ge_t h1) rfl ?_
      refine fl_Tq.stp (pc' := 10) (lv' := [some (.inl x), some (.inl y)]) (st' := [.inl y]) (m' := (f, l)) rfl rfl (fl_bo rfl) rfl ?_
      have e0 : (if x.toInt < y.toInt then x else y) = y := by simp only [if_neg h1]
      rw [e0] at hJ
      exact hJ
  refine hj16 ?_
  show fl_Tq _ 187 10 [some (.inl x), some (.inl y)] [.inl (if x.toInt < y.toInt then x else y)] (f, l) _
  exact fl_Tq.ret rfl rfl rfl k
noncomputable def r_size_v (x : Int32) : Int32 := if x.toInt < 0 then -x else x
theorem r_size_q {L : Nat} {xs : Nat → Int32} {f : t2_F} {l : t2_L} {Q : Option fl_V → fl_M → Prop} {x : Int32}  (k : Q (some (.inl (r_size_v x))) (f, l)) : fl_Tq (pw_P L xs) 188 0 (fl_args (am_mxl (pw_P L xs) 188) [.inl x]) [] (f, l) Q := by
  refine fl_Tq.stp (pc' := 1) (lv' := [some (.inl x)]) (st' := [.inl x]) (m' := (f, l)) rfl rfl (fl_bo rfl) rfl ?_
  have hj17 : fl_Tq (pw_P L xs) 188 10 [some (.inl x)] [.inl (if x.toInt < 0 then -x else x)] (f, l) Q → fl_Tq (pw_P L xs) 188 1 [some (.inl x)] [.inl x] (f, l) Q := by
    intro hJ
    by_cases h1 : x.toInt < 0
    · refine fl_Tq.zf rfl (fl_bo rfl) (c1_ge_f h1) rfl ?_
      refine fl_Tq.stp (pc' := 5) (lv' := [some (.inl x)]) (st' := [.inl x]) (m' := (f, l)) rfl rfl (fl_bo rfl) rfl ?_
      refine fl_Tq.stp (pc' := 6) (lv' := [some (.inl x)]) (st' := [.inl (-x)]) (m' := (f, l)) rfl rfl (fl_bo rfl) rfl ?_
      refine fl_Tq.stp (pc' := 10) (lv' := [some (.inl x)]) (st' := [.inl (-x)]) (m' := (f, l)) rfl rfl (fl_bo rfl) rfl ?_
      have e0 : (if x.toInt < 0 then -x else x) = -x := by simp only [if_pos h1]
      rw [e0] at hJ
      exact hJ
    · refine fl_Tq.zt rfl (fl_bo rfl) (c1_ge_t h1) rfl ?_
      refine fl_Tq.stp (pc' := 10) (lv' := [some (.inl x)]) (st' := [.inl x]) (m' := (f, l)) rfl rfl (fl_bo rfl) rfl ?_
      have e0 : (if x.toInt < 0 then -x else x) = x := by simp only [if_neg h1]
      rw [e0] at hJ
      exact hJ
  refine hj17 ?_
  show fl_Tq _ 188 10 [some (.inl x)] [.inl (if x.toInt < 0 then -x else x)] (f, l) _
  exact fl_Tq.ret rfl rfl rfl k
noncomputable def r_floor_v (x y : Int32) : Int32 := if x.toInt < 0 then -(((y - (1 : Int32)) - x) / y) else x / y
theorem r_floor_q {L : Nat} {xs : Nat → Int32} {f : t2_F} {l : t2_L} {Q : Option fl_V → fl_M → Prop} {x y : Int32} (hy : y ≠ 0) (k : Q (some (.inl (r_floor_v x y))) (f, l)) : fl_Tq (pw_P L xs) 189 0 (fl_args (am_mxl (pw_P L xs) 189) [.inl x, .inl y]) [] (f, l) Q := by
  refine fl_Tq.stp (pc' := 1) (lv' := [some (.inl x), some (.inl y)]) (st' := [.inl x]) (m' := (f, l)) rfl rfl (fl_bo rfl) rfl ?_
  have hj18 : fl_Tq (pw_P L xs) 189 18 [some (.inl x), some (.inl y)] [.inl (if x.toInt < 0 then -(((y - (1 : Int32)) - x) / y) else x / y)] (f, l) Q → fl_Tq (pw_P L xs) 189 1 [some (.inl x), some (.inl y)] [.inl x] (f, l) Q := by
    intro hJ
    by_cases h1 : x.toInt < 0
    · refine fl_Tq.zt rfl (fl_bo rfl) (c1_lt_t h1) rfl ?_
      refine fl_Tq.stp (pc' := 11) (lv' := [some (.inl x), some (.inl y)]) (st' := [.inl y]) (m' := (f, l)) rfl rfl (fl_bo rfl) rfl ?_
      refine fl_Tq.cI (c := (1 : Int32)) rfl (by decide +kernel) (fl_bo rfl) ?_
      refine fl_Tq.stp (pc' := 13) (lv' := [some (.inl x), some (.inl y)]) (st' := [.inl (y - (1 : Int32))]) (m' := (f, l)) rfl rfl (fl_bo rfl) rfl ?_
      refine fl_Tq.stp (pc' := 14) (lv' := [some (.inl x), some (.inl y)]) (st' := [.inl x, .inl (y - (1 : Int32))]) (m' := (f, l)) rfl rfl (fl_bo rfl) rfl ?_
      refine fl_Tq.stp (pc' := 15) (lv' := [some (.inl x), some (.inl y)]) (st' := [.inl ((y - (1 : Int32)) - x)]) (m' := (f, l)) rfl rfl (fl_bo rfl) rfl ?_
      refine fl_Tq.stp (pc' := 16) (lv' := [some (.inl x), some (.inl y)]) (st' := [.inl y, .inl ((y - (1 : Int32)) - x)]) (m' := (f, l)) rfl rfl (fl_bo rfl) rfl ?_
      refine fl_Tq.dv rfl (fl_bo rfl) hy ?_
      refine fl_Tq.stp (pc' := 18) (lv' := [some (.inl x), some (.inl y)]) (st' := [.inl (-(((y - (1 : Int32)) - x) / y))]) (m' := (f, l)) rfl rfl (fl_bo rfl) rfl ?_
      have e0 : (if x.toInt < 0 then -(((y - (1 : Int32)) - x) / y) else x / y) = -(((y - (1 : Int32)) - x) / y) := by simp only [if_pos h1]
      rw [e0] at hJ
      exact hJ
    · refine fl_Tq.zf rfl (fl_bo rfl) (c1_lt_f h1) rfl ?_
      refine fl_Tq.stp (pc' := 5) (lv' := [some (.inl x), some (.inl y)]) (st' := [.inl x]) (m' := (f, l)) rfl rfl (fl_bo rfl) rfl ?_
      refine fl_Tq.stp (pc' := 6) (lv' := [some (.inl x), some (.inl y)]) (st' := [.inl y, .inl x]) (m' := (f, l)) rfl rfl (fl_bo rfl) rfl ?_
      refine fl_Tq.dv rfl (fl_bo rfl) hy ?_
      refine fl_Tq.stp (pc' := 18) (lv' := [some (.inl x), some (.inl y)]) (st' := [.inl (x / y)]) (m' := (f, l)) rfl rfl (fl_bo rfl) rfl ?_
      have e0 : (if x.toInt < 0 then -(((y - (1 : Int32)) - x) / y) else x / y) = x / y := by simp only [if_neg h1]
      rw [e0] at hJ
      exact hJ
  refine hj18 ?_
  show fl_Tq _ 189 18 [some (.inl x), some (.inl y)] [.inl (if x.toInt < 0 then -(((y - (1 : Int32)) - x) / y) else x / y)] (f, l) _
  exact fl_Tq.ret rfl rfl rfl k
noncomputable def r_has_v (x y : Int32) : Int32 := if ((x >>> (y &&& 31)) &&& (1 : Int32)).toInt = (1 : Int32).toInt then (1 : Int32) else (0 : Int32)
theorem r_has_q {L : Nat} {xs : Nat → Int32} {f : t2_F} {l : t2_L} {Q : Option fl_V → fl_M → Prop} {x y : Int32}  (k : Q (some (.inl (r_has_v x y))) (f, l)) : fl_Tq (pw_P L xs) 190 0 (fl_args (am_mxl (pw_P L xs) 190) [.inl x, .inl y]) [] (f, l) Q := by
  refine fl_Tq.stp (pc' := 1) (lv' := [some (.inl x), some (.inl y)]) (st' := [.inl x]) (m' := (f, l)) rfl rfl (fl_bo rfl) rfl ?_
  refine fl_Tq.stp (pc' := 2) (lv' := [some (.inl x), some (.inl y)]) (st' := [.inl y, .inl x]) (m' := (f, l)) rfl rfl (fl_bo rfl) rfl ?_
  refine fl_Tq.stp (pc' := 3) (lv' := [some (.inl x), some (.inl y)]) (st' := [.inl (x >>> (y &&& 31))]) (m' := (f, l)) rfl rfl (fl_bo rfl) rfl ?_
  refine fl_Tq.cI (c := (1 : Int32)) rfl (by decide +kernel) (fl_bo rfl) ?_
  refine fl_Tq.stp (pc' := 5) (lv' := [some (.inl x), some (.inl y)]) (st' := [.inl ((x >>> (y &&& 31)) &&& (1 : Int32))]) (m' := (f, l)) rfl rfl (fl_bo rfl) rfl ?_
  refine fl_Tq.cI (c := (1 : Int32)) rfl (by decide +kernel) (fl_bo rfl) ?_
  by_cases h1 : ((x >>> (y &&& 31)) &&& (1 : Int32)).toInt = (1 : Int32).toInt
  · refine fl_Tq.jf rfl (fl_bo rfl) (c2_ne_f h1) rfl ?_
    refine fl_Tq.cI (c := (1 : Int32)) rfl (by decide +kernel) (fl_bo rfl) ?_
    refine fl_Tq.stp (pc' := 14) (lv' := [some (.inl x), some (.inl y)]) (st' := [.inl (1 : Int32)]) (m' := (f, l)) rfl rfl (fl_bo rfl) rfl ?_
    refine fl_Tq.ret rfl rfl rfl ?_
    unfold r_has_v at k
    simp only [if_pos h1] at k
    exact k
  · refine fl_Tq.jt rfl (fl_bo rfl) (c2_ne_t h1) rfl ?_
    refine fl_Tq.cI (c := (0 : Int32)) rfl (by decide +kernel) (fl_bo rfl) ?_
    refine fl_Tq.ret rfl rfl rfl ?_
    unfold r_has_v at k
    simp only [if_neg h1] at k
    exact k
noncomputable def r_full_v (f : t2_F) (c : Int32) (C : Nat) : Int32 := (3600 : Int32) * (f 280 (444 + 61 * C + 0))
theorem r_full_q {L : Nat} {xs : Nat → Int32} {f : t2_F} {l : t2_L} {Q : Option fl_V → fl_M → Prop} {c : Int32} {C : Nat} (hc : c.toInt = (C : Int)) (hC : C < 16) (k : Q (some (.inl (r_full_v f c C))) (f, l)) : fl_Tq (pw_P L xs) 195 0 (fl_args (am_mxl (pw_P L xs) 195) [.inr (.inr (.inl (76, 277))), .inl c]) [] (f, l) Q := by
  refine fl_Tq.cS (c := (3600 : Int32)) rfl (by decide +kernel) (fl_bo rfl) ?_
  refine fl_Tq.stp (pc' := 4) (lv' := [some (.inr (.inr (.inl (76, 277)))), some (.inl c)]) (st' := [.inr (.inr (.inl (76, 277))), .inl (3600 : Int32)]) (m' := (f, l)) rfl rfl (fl_bo rfl) rfl ?_
  refine fl_Tq.stp (pc' := 5) (lv' := [some (.inr (.inr (.inl (76, 277)))), some (.inl c)]) (st' := [.inl c, .inr (.inr (.inl (76, 277))), .inl (3600 : Int32)]) (m' := (f, l)) rfl rfl (fl_bo rfl) rfl ?_
  refine fl_Tq.cI (c := (0 : Int32)) rfl (by decide +kernel) (fl_bo rfl) ?_
  refine fl_Tq.cal rfl rfl (fl_bo rfl) rfl ?_
  refine t2_get (C := C) (W := 0) (v := f 280 (444 + 61 * C + 0)) hc (by decide +kernel) hC (by decide) rfl ?_
  show fl_Tq _ 195 9 [some (.inr (.inr (.inl (76, 277)))), some (.inl c)] [.inl (f 280 (444 + 61 * C + 0)), .inl (3600 : Int32)] (f, l) _
  refine fl_Tq.stp (pc' := 10) (lv' := [some (.inr (.inr (.inl (76, 277)))), some (.inl c)]) (st' := [.inl ((3600 : Int32) * (f 280 (444 + 61 * C + 0)))]) (m' := (f, l)) rfl rfl (fl_bo rfl) rfl ?_
  exact fl_Tq.ret rfl rfl rfl k
noncomputable def r_hold_m (f : t2_F) (c : Int32) (C : Nat) : t2_F := fl_row f 280 (upd (upd (f 280) (444 + 61 * C + 1) (r_held_v (f 280 (444 + 61 * C + 1)) (0 : Int32) (r_full_v f c C))) (444 + 61 * C + 4) (r_held_v (f 280 (444 + 61 * C + 4)) (0 : Int32) (r_full_v (fl_row f 280 (upd (f 280) (444 + 61 * C + 1) (r_held_v (f 280 (444 + 61 * C + 1)) (0 : Int32) (r_full_v f c C)))) c C)))
theorem r_hold_fr {f : t2_F} {c : Int32} {C : Nat} {p : Nat}  (e280 : p ≠ 280) : r_hold_m f c C p = f p := by
  unfold r_hold_m
  repeat' split
  all_goals first | rfl | simp only [fl_row_ne e280]
theorem r_hold_w {f : t2_F} {c : Int32} {C : Nat} {w : Nat} (e0 : w ≠ 444 + 61 * C + 1) (e1 : w ≠ 444 + 61 * C + 4) : r_hold_m f c C 280 w = f 280 w := by
  unfold r_hold_m
  repeat' split
  all_goals first | rfl | simp only [fl_row_self, upd_ne e0, upd_ne e1]
theorem r_hold_q {L : Nat} {xs : Nat → Int32} {f : t2_F} {l : t2_L} {Q : Option fl_V → fl_M → Prop} {c : Int32} {C : Nat} (hc : c.toInt = (C : Int)) (hC : C < 16) (k : Q none (r_hold_m f c C, l)) : fl_Tq (pw_P L xs) 214 0 (fl_args (am_mxl (pw_P L xs) 214) [.inr (.inr (.inl (76, 277))), .inl c]) [] (f, l) Q := by
  refine fl_Tq.stp (pc' := 1) (lv' := [some (.inr (.inr (.inl (76, 277)))), some (.inl c)]) (st' := [.inr (.inr (.inl (76, 277)))]) (m' := (f, l)) rfl rfl (fl_bo rfl) rfl ?_
  refine fl_Tq.stp (pc' := 2) (lv' := [some (.inr (.inr (.inl (76, 277)))), some (.inl c)]) (st' := [.inl c, .inr (.inr (.inl (76, 277)))]) (m' := (f, l)) rfl rfl (fl_bo rfl) rfl ?_
  refine fl_Tq.cI (c := (1 : Int32)) rfl (by decide +kernel) (fl_bo rfl) ?_
  refine fl_Tq.stp (pc' := 4) (lv' := [some (.inr (.inr (.inl (76, 277)))), some (.inl c)]) (st' := [.inr (.inr (.inl (76, 277))), .inl (1 : Int32), .inl c, .inr (.inr (.inl (76, 277)))]) (m' := (f, l)) rfl rfl (fl_bo rfl) rfl ?_
  refine fl_Tq.stp (pc' := 5) (lv' := [some (.inr (.inr (.inl (76, 277)))), some (.inl c)]) (st' := [.inl c, .inr (.inr (.inl (76, 277))), .inl (1 : Int32), .inl c, .inr (.inr (.inl (76, 277)))]) (m' := (f, l)) rfl rfl (fl_bo rfl) rfl ?_
  refine fl_Tq.cI (c := (1 : Int32)) rfl (by decide +kernel) (fl_bo rfl) ?_
  refine fl_Tq.cal rfl rfl (fl_bo rfl) rfl ?_
  refine t2_get (C := C) (W := 1) (v := f 280 (444 + 61 * C + 1)) hc (by decide +kernel) hC (by decide) rfl ?_
  show fl_Tq _ 214 9 [some (.inr (.inr (.inl (76, 277)))), some (.inl c)] [.inl (f 280 (444 + 61 * C + 1)), .inl (1 : Int32), .inl c, .inr (.inr (.inl (76, 277)))] (f, l) _
  refine fl_Tq.cI (c := (0 : Int32)) rfl (by decide +kernel) (fl_bo rfl) ?_
  refine fl_Tq.stp (pc' := 11) (lv' := [some (.inr (.inr (.inl (76, 277)))), some (.inl c)]) (st' := [.inr (.inr (.inl (76, 277))), .inl (0 : Int32), .inl (f 280 (444 + 61 * C + 1)), .inl (1 : Int32), .inl c, .inr (.inr (.inl (76, 277)))]) (m' := (f, l)) rfl rfl (fl_bo rfl) rfl ?_
  refine fl_Tq.stp (pc' := 12) (lv' := [some (.inr (.inr (.inl (76, 277)))), some (.inl c)]) (st' := [.inl c, .inr (.inr (.inl (76, 277))), .inl (0 : Int32), .inl (f 280 (444 + 61 * C + 1)), .inl (1 : Int32), .inl c, .inr (.inr (.inl (76, 277)))]) (m' := (f, l)) rfl rfl (fl_bo rfl) rfl ?_
  refine fl_Tq.cal rfl rfl (fl_bo rfl) rfl ?_
  refine r_full_q hc hC ?_
  show fl_Tq _ 214 15 [some (.inr (.inr (.inl (76, 277)))), some (.inl c)] [.inl (r_full_v f c C), .inl (0 : Int32), .inl (f 280 (444 + 61 * C + 1)), .inl (1 : Int32), .inl c, .inr (.inr (.inl (76, 277)))] (f, l) _
  refine fl_Tq.cal rfl rfl (fl_bo rfl) rfl ?_
  refine r_held_q  ?_
  show fl_Tq _ 214 18 [some (.inr (.inr (.inl (76, 277)))), some (.inl c)] [.inl (r_held_v (f 280 (444 + 61 * C + 1)) (0 : Int32) (r_full_v f c C)), .inl (1 : Int32), .inl c, .inr (.inr (.inl (76, 277)))] (f, l) _
  refine fl_Tq.cal rfl rfl (fl_bo rfl) rfl ?_
  refine t2_let (C := C) (W := 1) (m' := (fl_row f 280 (upd (f 280) (444 + 61 * C + 1) (r_held_v (f 280 (444 + 61 * C + 1)) (0 : Int32) (r_full_v f c C))), l)) hc (by decide +kernel) hC (by decide) (t2_upn rfl) ?_
  show fl_Tq _ 214 21 [some (.inr (.inr (.inl (76, 277)))), some (.inl c)] [] (fl_row f 280 (upd (f 280) (444 + 61 * C + 1) (r_held_v (f 280 (444 + 61 * C + 1)) (0 : Int32) (r_full_v f c C))), l) _
  refine fl_Tq.stp (pc' := 22) (lv' := [some (.inr (.inr (.inl (76, 277)))), some (.inl c)]) (st' := [.inr (.inr (.inl (76, 277)))]) (m' := (fl_row f 280 (upd (f 280) (444 + 61 * C + 1) (r_held_v (f 280 (444 + 61 * C + 1)) (0 : Int32) (r_full_v f c C))), l)) rfl rfl (fl_bo rfl) rfl ?_
  refine fl_Tq.stp (pc' := 23) (lv' := [some (.inr (.inr (.inl (76, 277)))), some (.inl c)]) (st' := [.inl c, .inr (.inr (.inl (76, 277)))]) (m' := (fl_row f 280 (upd (f 280) (444 + 61 * C + 1) (r_held_v (f 280 (444 + 61 * C + 1)) (0 : Int32) (r_full_v f c C))), l)) rfl rfl (fl_bo rfl) rfl ?_
  refine fl_Tq.cI (c := (4 : Int32)) rfl (by decide +kernel) (fl_bo rfl) ?_
  refine fl_Tq.stp (pc' := 25) (lv' := [some (.inr (.inr (.inl (76, 277)))), some (.inl c)]) (st' := [.inr (.inr (.inl (76, 277))), .inl (4 : Int32), .inl c, .inr (.inr (.inl (76, 277)))]) (m' := (fl_row f 280 (upd (f 280) (444 + 61 * C + 1) (r_held_v (f 280 (444 + 61 * C + 1)) (0 : Int32) (r_full_v f c C))), l)) rfl rfl (fl_bo rfl) rfl ?_
  refine fl_Tq.stp (pc' := 26) (lv' := [some (.inr (.inr (.inl (76, 277)))), some (.inl c)]) (st' := [.inl c, .inr (.inr (.inl (76, 277))), .inl (4 : Int32), .inl c, .inr (.inr (.inl (76, 277)))]) (m' := (fl_row f 280 (upd (f 280) (444 + 61 * C + 1) (r_held_v (f 280 (444 + 61 * C + 1)) (0 : Int32) (r_full_v f c C))), l)) rfl rfl (fl_bo rfl) rfl ?_
  refine fl_Tq.cI (c := (4 : Int32)) rfl (by decide +kernel) (fl_bo rfl) ?_
  refine fl_Tq.cal rfl rfl (fl_bo rfl) rfl ?_
  refine t2_get (C := C) (W := 4) (v := f 280 (444 + 61 * C + 4)) hc (by decide +kernel) hC (by decide) (by simp only [fl_row_self, upd_ne (by omega : 444 + 61 * C + 4 ≠ 444 + 61 * C + 1)]) ?_
  show fl_Tq _ 214 30 [some (.inr (.inr (.inl (76, 277)))), some (.inl c)] [.inl (f 280 (444 + 61 * C + 4)), .inl (4 : Int32), .inl c, .inr (.inr (.inl (76, 277)))] (fl_row f 280 (upd (f 280) (444 + 61 * C + 1) (r_held_v (f 280 (444 + 61 * C + 1)) (0 : Int32) (r_full_v f c C))), l) _
  refine fl_Tq.cI (c := (0 : Int32)) rfl (by decide +kernel) (fl_bo rfl) ?_
  refine fl_Tq.stp (pc' := 32) (lv' := [some (.inr (.inr (.inl (76, 277)))), some (.inl c)]) (st' := [.inr (.inr (.inl (76, 277))), .inl (0 : Int32), .inl (f 280 (444 + 61 * C + 4)), .inl (4 : Int32), .inl c, .inr (.inr (.inl (76, 277)))]) (m' := (fl_row f 280 (upd (f 280) (444 + 61 * C + 1) (r_held_v (f 280 (444 + 61 * C + 1)) (0 : Int32) (r_full_v f c C))), l)) rfl rfl (fl_bo rfl) rfl ?_
  refine fl_Tq.stp (pc' := 33) (lv' := [some (.inr (.inr (.inl (76, 277)))), some (.inl c)]) (st' := [.inl c, .inr (.inr (.inl (76, 277))), .inl (0 : Int32), .inl (f 280 (444 + 61 * C + 4)), .inl (4 : Int32), .inl c, .inr (.inr (.inl (76, 277)))]) (m' := (fl_row f 280 (upd (f 280) (444 + 61 * C + 1) (r_held_v (f 280 (444 + 61 * C + 1)) (0 : Int32) (r_full_v f c C))), l)) rfl rfl (fl_bo rfl) rfl ?_
  refine fl_Tq.cal rfl rfl (fl_bo rfl) rfl ?_
  refine r_full_q hc hC ?_
  show fl_Tq _ 214 36 [some (.inr (.inr (.inl (76, 277)))), some (.inl c)] [.inl (r_full_v (fl_row f 280 (upd (f 280) (444 + 61 * C + 1) (r_held_v (f 280 (444 + 61 * C + 1)) (0 : Int32) (r_full_v f c C)))) c C), .inl (0 : Int32), .inl (f 280 (444 + 61 * C + 4)), .inl (4 : Int32), .inl c, .inr (.inr (.inl (76, 277)))] (fl_row f 280 (upd (f 280) (444 + 61 * C + 1) (r_held_v (f 280 (444 + 61 * C + 1)) (0 : Int32) (r_full_v f c C))), l) _
  refine fl_Tq.cal rfl rfl (fl_bo rfl) rfl ?_
  refine r_held_q  ?_
  show fl_Tq _ 214 39 [some (.inr (.inr (.inl (76, 277)))), some (.inl c)] [.inl (r_held_v (f 280 (444 + 61 * C + 4)) (0 : Int32) (r_full_v (fl_row f 280 (upd (f 280) (444 + 61 * C + 1) (r_held_v (f 280 (444 + 61 * C + 1)) (0 : Int32) (r_full_v f c C)))) c C)), .inl (4 : Int32), .inl c, .inr (.inr (.inl (76, 277)))] (fl_row f 280 (upd (f 280) (444 + 61 * C + 1) (r_held_v (f 280 (444 + 61 * C + 1)) (0 : Int32) (r_full_v f c C))), l) _
  refine fl_Tq.cal rfl rfl (fl_bo rfl) rfl ?_
  refine t2_let (C := C) (W := 4) (m' := (fl_row f 280 (upd (upd (f 280) (444 + 61 * C + 1) (r_held_v (f 280 (444 + 61 * C + 1)) (0 : Int32) (r_full_v f c C))) (444 + 61 * C + 4) (r_held_v (f 280 (444 + 61 * C + 4)) (0 : Int32) (r_full_v (fl_row f 280 (upd (f 280) (444 + 61 * C + 1) (r_held_v (f 280 (444 + 61 * C + 1)) (0 : Int32) (r_full_v f c C)))) c C))), l)) hc (by decide +kernel) hC (by decide) (t2_upr) ?_
  show fl_Tq _ 214 42 [some (.inr (.inr (.inl (76, 277)))), some (.inl c)] [] (fl_row f 280 (upd (upd (f 280) (444 + 61 * C + 1) (r_held_v (f 280 (444 + 61 * C + 1)) (0 : Int32) (r_full_v f c C))) (444 + 61 * C + 4) (r_held_v (f 280 (444 + 61 * C + 4)) (0 : Int32) (r_full_v (fl_row f 280 (upd (f 280) (444 + 61 * C + 1) (r_held_v (f 280 (444 + 61 * C + 1)) (0 : Int32) (r_full_v f c C)))) c C))), l) _
  exact fl_Tq.ret rfl rfl rfl k
noncomputable def r_goWarm_m (f : t2_F) (c : Int32) (C : Nat) : t2_F := fl_row f 280 (upd (upd (f 280) (444 + 61 * C + 1) (r_held_v (((f 280 (444 + 61 * C + 1)) + (f 280 5)) - (f 280 61)) (0 : Int32) (r_full_v f c C))) (444 + 61 * C + 3) (((f 280 (444 + 61 * C + 3)) + (((((f 280 5) / (1000 : Int32)) * ((f 280 5) / (1000 : Int32))) * (f 280 (444 + 61 * C + 2))) / (500 : Int32))) + (((f 280 40) - ((f 280 (444 + 61 * C + 3)) + (((((f 280 5) / (1000 : Int32)) * ((f 280 5) / (1000 : Int32))) * (f 280 (444 + 61 * C + 2))) / (500 : Int32)))) / (32 : Int32))))
theorem r_goWarm_fr {f : t2_F} {c : Int32} {C : Nat} {p : Nat}  (e280 : p ≠ 280) : r_goWarm_m f c C p = f p := by
  unfold r_goWarm_m
  repeat' split
  all_goals first | rfl | simp only [fl_row_ne e280]
theorem r_goWarm_w {f : t2_F} {c : Int32} {C : Nat} {w : Nat} (e0 : w ≠ 444 + 61 * C + 1) (e1 : w ≠ 444 + 61 * C + 3) : r_goWarm_m f c C 280 w = f 280 w := by
  unfold r_goWarm_m
  repeat' split
  all_goals first | rfl | simp only [fl_row_self, upd_ne e0, upd_ne e1]
theorem r_goWarm_q {L : Nat} {xs : Nat → Int32} {f : t2_F} {l : t2_L} {Q : Option fl_V → fl_M → Prop} {c : Int32} {C : Nat} (hc : c.toInt = (C : Int)) (hC : C < 16) (k : Q none (r_goWarm_m f c C, l)) : fl_Tq (pw_P L xs) 215 0 (fl_args (am_mxl (pw_P L xs) 215) [.inr (.inr (.inl (76, 277))), .inl c]) [] (f, l) Q := by
  refine fl_Tq.stp (pc' := 1) (lv' := [some (.inr (.inr (.inl (76, 277)))), some (.inl c), none]) (st' := [.inr (.inr (.inl (76, 277)))]) (m' := (f, l)) rfl rfl (fl_bo rfl) rfl ?_
  refine fl_Tq.stp (pc' := 2) (lv' := [some (.inr (.inr (.inl (76, 277)))), some (.inl c), none]) (st' := [.inl c, .inr (.inr (.inl (76, 277)))]) (m' := (f, l)) rfl rfl (fl_bo rfl) rfl ?_
  refine fl_Tq.cI (c := (1 : Int32)) rfl (by decide +kernel) (fl_bo rfl) ?_
  refine fl_Tq.stp (pc' := 4) (lv' := [some (.inr (.inr (.inl (76, 277)))), some (.inl c), none]) (st' := [.inr (.inr (.inl (76, 277))), .inl (1 : Int32), .inl c, .inr (.inr (.inl (76, 277)))]) (m' := (f, l)) rfl rfl (fl_bo rfl) rfl ?_
  refine fl_Tq.stp (pc' := 5) (lv' := [some (.inr (.inr (.inl (76, 277)))), some (.inl c), none]) (st' := [.inl c, .inr (.inr (.inl (76, 277))), .inl (1 : Int32), .inl c, .inr (.inr (.inl (76, 277)))]) (m' := (f, l)) rfl rfl (fl_bo rfl) rfl ?_
  refine fl_Tq.cI (c := (1 : Int32)) rfl (by decide +kernel) (fl_bo rfl) ?_
  refine fl_Tq.cal rfl rfl (fl_bo rfl) rfl ?_
  refine t2_get (C := C) (W := 1) (v := f 280 (444 + 61 * C + 1)) hc (by decide +kernel) hC (by decide) rfl ?_
  show fl_Tq _ 215 9 [some (.inr (.inr (.inl (76, 277)))), some (.inl c), none] [.inl (f 280 (444 + 61 * C + 1)), .inl (1 : Int32), .inl c, .inr (.inr (.inl (76, 277)))] (f, l) _
  refine fl_Tq.stp (pc' := 10) (lv' := [some (.inr (.inr (.inl (76, 277)))), some (.inl c), none]) (st' := [.inr (.inr (.inl (76, 277))), .inl (f 280 (444 + 61 * C + 1)), .inl (1 : Int32), .inl c, .inr (.inr (.inl (76, 277)))]) (m' := (f, l)) rfl rfl (fl_bo rfl) rfl ?_
  refine fl_Tq.stp (pc' := 13) (lv' := [some (.inr (.inr (.inl (76, 277)))), some (.inl c), none]) (st' := [.inr (.inr (.inl (79, 280))), .inl (f 280 (444 + 61 * C + 1)), .inl (1 : Int32), .inl c, .inr (.inr (.inl (76, 277)))]) (m' := (f, l)) rfl rfl (fl_bo rfl) rfl ?_
  refine fl_Tq.cI (c := (5 : Int32)) rfl (by decide +kernel) (fl_bo rfl) ?_
  refine fl_Tq.ldV (p := 280) (τ := 79) (n := 29780) (z := (0, 0, 0)) (k := 5) (v := f 280 5) rfl (fl_bo rfl) rfl (by decide +kernel) (by decide) rfl ?_
  refine fl_Tq.stp (pc' := 16) (lv' := [some (.inr (.inr (.inl (76, 277)))), some (.inl c), none]) (st' := [.inl ((f 280 (444 + 61 * C + 1)) + (f 280 5)), .inl (1 : Int32), .inl c, .inr (.inr (.inl (76, 277)))]) (m' := (f, l)) rfl rfl (fl_bo rfl) rfl ?_
  refine fl_Tq.stp (pc' := 17) (lv' := [some (.inr (.inr (.inl (76, 277)))), some (.inl c), none]) (st' := [.inr (.inr (.inl (76, 277))), .inl ((f 280 (444 + 61 * C + 1)) + (f 280 5)), .inl (1 : Int32), .inl c, .inr (.inr (.inl (76, 277)))]) (m' := (f, l)) rfl rfl (fl_bo rfl) rfl ?_
  refine fl_Tq.cB (c := (27 : Int32)) rfl (by decide +kernel) (fl_bo rfl) ?_
  refine fl_Tq.cal rfl rfl (fl_bo rfl) rfl ?_
  refine t2_its (W := 27) (v := f 280 61) (by decide +kernel) (by decide) rfl ?_
  show fl_Tq _ 215 22 [some (.inr (.inr (.inl (76, 277)))), some (.inl c), none] [.inl (f 280 61), .inl ((f 280 (444 + 61 * C + 1)) + (f 280 5)), .inl (1 : Int32), .inl c, .inr (.inr (.inl (76, 277)))] (f, l) _
  refine fl_Tq.stp (pc' := 23) (lv' := [some (.inr (.inr (.inl (76, 277)))), some (.inl c), none]) (st' := [.inl (((f 280 (444 + 61 * C + 1)) + (f 280 5)) - (f 280 61)), .inl (1 : Int32), .inl c, .inr (.inr (.inl (76, 277)))]) (m' := (f, l)) rfl rfl (fl_bo rfl) rfl ?_
  refine fl_Tq.cI (c := (0 : Int32)) rfl (by decide +kernel) (fl_bo rfl) ?_
  refine fl_Tq.stp (pc' := 25) (lv' := [some (.inr (.inr (.inl (76, 277)))), some (.inl c), none]) (st' := [.inr (.inr (.inl (76, 277))), .inl (0 : Int32), .inl (((f 280 (444 + 61 * C + 1)) + (f 280 5)) - (f 280 61)), .inl (1 : Int32), .inl c, .inr (.inr (.inl (76, 277)))]) (m' := (f, l)) rfl rfl (fl_bo rfl) rfl ?_
  refine fl_Tq.stp (pc' := 26) (lv' := [some (.inr (.inr (.inl (76, 277)))), some (.inl c), none]) (st' := [.inl c, .inr (.inr (.inl (76, 277))), .inl (0 : Int32), .inl (((f 280 (444 + 61 * C + 1)) + (f 280 5)) - (f 280 61)), .inl (1 : Int32), .inl c, .inr (.inr (.inl (76, 277)))]) (m' := (f, l)) rfl rfl (fl_bo rfl) rfl ?_
  refine fl_Tq.cal rfl rfl (fl_bo rfl) rfl ?_
  refine r_full_q hc hC ?_
  show fl_Tq _ 215 29 [some (.inr (.inr (.inl (76, 277)))), some (.inl c), none] [.inl (r_full_v f c C), .inl (0 : Int32), .inl (((f 280 (444 + 61 * C + 1)) + (f 280 5)) - (f 280 61)), .inl (1 : Int32), .inl c, .inr (.inr (.inl (76, 277)))] (f, l) _
  refine fl_Tq.cal rfl rfl (fl_bo rfl) rfl ?_
  refine r_held_q  ?_
  show fl_Tq _ 215 32 [some (.inr (.inr (.inl (76, 277)))), some (.inl c), none] [.inl (r_held_v (((f 280 (444 + 61 * C + 1)) + (f 280 5)) - (f 280 61)) (0 : Int32) (r_full_v f c C)), .inl (1 : Int32), .inl c, .inr (.inr (.inl (76, 277)))] (f, l) _
  refine fl_Tq.cal rfl rfl (fl_bo rfl) rfl ?_
  refine t2_let (C := C) (W := 1) (m' := (fl_row f 280 (upd (f 280) (444 + 61 * C + 1) (r_held_v (((f 280 (444 + 61 * C + 1)) + (f 280 5)) - (f 280 61)) (0 : Int32) (r_full_v f c C))), l)) hc (by decide +kernel) hC (by decide) (t2_upn rfl) ?_
  show fl_Tq _ 215 35 [some (.inr (.inr (.inl (76, 277)))), some (.inl c), none] [] (fl_row f 280 (upd (f 280) (444 + 61 * C + 1) (r_held_v (((f 280 (444 + 61 * C + 1)) + (f 280 5)) - (f 280 61)) (0 : Int32) (r_full_v f c C))), l) _
  refine fl_Tq.stp (pc' := 36) (lv' := [some (.inr (.inr (.inl (76, 277)))), some (.inl c), none]) (st' := [.inr (.inr (.inl (76, 277)))]) (m' := (fl_row f 280 (upd (f 280) (444 + 61 * C + 1) (r_held_v (((f 280 (444 + 61 * C + 1)) + (f 280 5)) - (f 280 61)) (0 : Int32) (r_full_v f c C))), l)) rfl rfl (fl_bo rfl) rfl ?_
  refine fl_Tq.stp (pc' := 39) (lv' := [some (.inr (.inr (.inl (76, 277)))), some (.inl c), none]) (st' := [.inr (.inr (.inl (79, 280)))]) (m' := (fl_row f 280 (upd (f 280) (444 + 61 * C + 1) (r_held_v (((f 280 (444 + 61 * C + 1)) + (f 280 5)) - (f 280 61)) (0 : Int32) (r_full_v f c C))), l)) rfl rfl (fl_bo rfl) rfl ?_
  refine fl_Tq.cI (c := (5 : Int32)) rfl (by decide +kernel) (fl_bo rfl) ?_
  refine fl_Tq.ldV (p := 280) (τ := 79) (n := 29780) (z := (0, 0, 0)) (k := 5) (v := f 280 5) rfl (fl_bo rfl) rfl (by decide +kernel) (by decide) (by simp only [fl_row_self, upd_ne (by omega : 5 ≠ 444 + 61 * C + 1)]) ?_
  refine fl_Tq.cS (c := (1000 : Int32)) rfl (by decide +kernel) (fl_bo rfl) ?_
  refine fl_Tq.dv rfl (fl_bo rfl) (by decide +kernel) ?_
  refine fl_Tq.stp (pc' := 46) (lv' := [some (.inr (.inr (.inl (76, 277)))), some (.inl c), some (.inl ((f 280 5) / (1000 : Int32)))]) (st' := []) (m' := (fl_row f 280 (upd (f 280) (444 + 61 * C + 1) (r_held_v (((f 280 (444 + 61 * C + 1)) + (f 280 5)) - (f 280 61)) (0 : Int32) (r_full_v f c C))), l)) rfl rfl (fl_bo rfl) rfl ?_
  refine fl_Tq.stp (pc' := 47) (lv' := [some (.inr (.inr (.inl (76, 277)))), some (.inl c), some (.inl ((f 280 5) / (1000 : Int32)))]) (st' := [.inr (.inr (.inl (76, 277)))]) (m' := (fl_row f 280 (upd (f 280) (444 + 61 * C + 1) (r_held_v (((f 280 (444 + 61 * C + 1)) + (f 280 5)) - (f 280 61)) (0 : Int32) (r_full_v f c C))), l)) rfl rfl (fl_bo rfl) rfl ?_
  refine fl_Tq.stp (pc' := 48) (lv' := [some (.inr (.inr (.inl (76, 277)))), some (.inl c), some (.inl ((f 280 5) / (1000 : Int32)))]) (st' := [.inl c, .inr (.inr (.inl (76, 277)))]) (m' := (fl_row f 280 (upd (f 280) (444 + 61 * C + 1) (r_held_v (((f 280 (444 + 61 * C + 1)) + (f 280 5)) - (f 280 61)) (0 : Int32) (r_full_v f c C))), l)) rfl rfl (fl_bo rfl) rfl ?_
  refine fl_Tq.cI (c := (3 : Int32)) rfl (by decide +kernel) (fl_bo rfl) ?_
  refine fl_Tq.stp (pc' := 50) (lv' := [some (.inr (.inr (.inl (76, 277)))), some (.inl c), some (.inl ((f 280 5) / (1000 : Int32)))]) (st' := [.inr (.inr (.inl (76, 277))), .inl (3 : Int32), .inl c, .inr (.inr (.inl (76, 277)))]) (m' := (fl_row f 280 (upd (f 280) (444 + 61 * C + 1) (r_held_v (((f 280 (444 + 61 * C + 1)) + (f 280 5)) - (f 280 61)) (0 : Int32) (r_full_v f c C))), l)) rfl rfl (fl_bo rfl) rfl ?_
  refine fl_Tq.stp (pc' := 51) (lv' := [some (.inr (.inr (.inl (76, 277)))), some (.inl c), some (.inl ((f 280 5) / (1000 : Int32)))]) (st' := [.inl c, .inr (.inr (.inl (76, 277))), .inl (3 : Int32), .inl c, .inr (.inr (.inl (76, 277)))]) (m' := (fl_row f 280 (upd (f 280) (444 + 61 * C + 1) (r_held_v (((f 280 (444 + 61 * C + 1)) + (f 280 5)) - (f 280 61)) (0 : Int32) (r_full_v f c C))), l)) rfl rfl (fl_bo rfl) rfl ?_
  refine fl_Tq.cI (c := (3 : Int32)) rfl (by decide +kernel) (fl_bo rfl) ?_
  refine fl_Tq.cal rfl rfl (fl_bo rfl) rfl ?_
  refine t2_get (C := C) (W := 3) (v := f 280 (444 + 61 * C + 3)) hc (by decide +kernel) hC (by decide) (by simp only [fl_row_self, upd_ne (by omega : 444 + 61 * C + 3 ≠ 444 + 61 * C + 1)]) ?_
  show fl_Tq _ 215 55 [some (.inr (.inr (.inl (76, 277)))), some (.inl c), some (.inl ((f 280 5) / (1000 : Int32)))] [.inl (f 280 (444 + 61 * C + 3)), .inl (3 : Int32), .inl c, .inr (.inr (.inl (76, 277)))] (fl_row f 280 (upd (f 280) (444 + 61 * C + 1) (r_held_v (((f 280 (444 + 61 * C + 1)) + (f 280 5)) - (f 280 61)) (0 : Int32) (r_full_v f c C))), l) _
  refine fl_Tq.stp (pc' := 56) (lv' := [some (.inr (.inr (.inl (76, 277)))), some (.inl c), some (.inl ((f 280 5) / (1000 : Int32)))]) (st' := [.inl ((f 280 5) / (1000 : Int32)), .inl (f 280 (444 + 61 * C + 3)), .inl (3 : Int32), .inl c, .inr (.inr (.inl (76, 277)))]) (m' := (fl_row f 280 (upd (f 280) (444 + 61 * C + 1) (r_held_v (((f 280 (444 + 61 * C + 1)) + (f 280 5)) - (f 280 61)) (0 : Int32) (r_full_v f c C))), l)) rfl rfl (fl_bo rfl) rfl ?_
  refine fl_Tq.stp (pc' := 57) (lv' := [some (.inr (.inr (.inl (76, 277)))), some (.inl c), some (.inl ((f 280 5) / (1000 : Int32)))]) (st' := [.inl ((f 280 5) / (1000 : Int32)), .inl ((f 280 5) / (1000 : Int32)), .inl (f 280 (444 + 61 * C + 3)), .inl (3 : Int32), .inl c, .inr (.inr (.inl (76, 277)))]) (m' := (fl_row f 280 (upd (f 280) (444 + 61 * C + 1) (r_held_v (((f 280 (444 + 61 * C + 1)) + (f 280 5)) - (f 280 61)) (0 : Int32) (r_full_v f c C))), l)) rfl rfl (fl_bo rfl) rfl ?_
  refine fl_Tq.stp (pc' := 58) (lv' := [some (.inr (.inr (.inl (76, 277)))), some (.inl c), some (.inl ((f 280 5) / (1000 : Int32)))]) (st' := [.inl (((f 280 5) / (1000 : Int32)) * ((f 280 5) / (1000 : Int32))), .inl (f 280 (444 + 61 * C + 3)), .inl (3 : Int32), .inl c, .inr (.inr (.inl (76, 277)))]) (m' := (fl_row f 280 (upd (f 280) (444 + 61 * C + 1) (r_held_v (((f 280 (444 + 61 * C + 1)) + (f 280 5)) - (f 280 61)) (0 : Int32) (r_full_v f c C))), l)) rfl rfl (fl_bo rfl) rfl ?_
  refine fl_Tq.stp (pc' := 59) (lv' := [some (.inr (.inr (.inl (76, 277)))), some (.inl c), some (.inl ((f 280 5) / (1000 : Int32)))]) (st' := [.inr (.inr (.inl (76, 277))), .inl (((f 280 5) / (1000 : Int32)) * ((f 280 5) / (1000 : Int32))), .inl (f 280 (444 + 61 * C + 3)), .inl (3 : Int32), .inl c, .inr (.inr (.inl (76, 277)))]) (m' := (fl_row f 280 (upd (f 280) (444 + 61 * C + 1) (r_held_v (((f 280 (444 + 61 * C + 1)) + (f 280 5)) - (f 280 61)) (0 : Int32) (r_full_v f c C))), l)) rfl rfl (fl_bo rfl) rfl ?_
  refine fl_Tq.stp (pc' := 60) (lv' := [some (.inr (.inr (.inl (76, 277)))), some (.inl c), some (.inl ((f 280 5) / (1000 : Int32)))]) (st' := [.inl c, .inr (.inr (.inl (76, 277))), .inl (((f 280 5) / (1000 : Int32)) * ((f 280 5) / (1000 : Int32))), .inl (f 280 (444 + 61 * C + 3)), .inl (3 : Int32), .inl c, .inr (.inr (.inl (76, 277)))]) (m' := (fl_row f 280 (upd (f 280) (444 + 61 * C + 1) (r_held_v (((f 280 (444 + 61 * C + 1)) + (f 280 5)) - (f 280 61)) (0 : Int32) (r_full_v f c C))), l)) rfl rfl (fl_bo rfl) rfl ?_
  refine fl_Tq.cI (c := (2 : Int32)) rfl (by decide +kernel) (fl_bo rfl) ?_
  refine fl_Tq.cal rfl rfl (fl_bo rfl) rfl ?_
  refine t2_get (C := C) (W := 2) (v := f 280 (444 + 61 * C + 2)) hc (by decide +kernel) hC (by decide) (by simp only [fl_row_self, upd_ne (by omega : 444 + 61 * C + 2 ≠ 444 + 61 * C + 1)]) ?_
  show fl_Tq _ 215 64 [some (.inr (.inr (.inl (76, 277)))), some (.inl c), some (.inl ((f 280 5) / (1000 : Int32)))] [.inl (f 280 (444 + 61 * C + 2)), .inl (((f 280 5) / (1000 : Int32)) * ((f 280 5) / (1000 : Int32))), .inl (f 280 (444 + 61 * C + 3)), .inl (3 : Int32), .inl c, .inr (.inr (.inl (76, 277)))] (fl_row f 280 (upd (f 280) (444 + 61 * C + 1) (r_held_v (((f 280 (444 + 61 * C + 1)) + (f 280 5)) - (f 280 61)) (0 : Int32) (r_full_v f c C))), l) _
  refine fl_Tq.stp (pc' := 65) (lv' := [some (.inr (.inr (.inl (76, 277)))), some (.inl c), some (.inl ((f 280 5) / (1000 : Int32)))]) (st' := [.inl ((((f 280 5) / (1000 : Int32)) * ((f 280 5) / (1000 : Int32))) * (f 280 (444 + 61 * C + 2))), .inl (f 280 (444 + 61 * C + 3)), .inl (3 : Int32), .inl c, .inr (.inr (.inl (76, 277)))]) (m' := (fl_row f 280 (upd (f 280) (444 + 61 * C + 1) (r_held_v (((f 280 (444 + 61 * C + 1)) + (f 280 5)) - (f 280 61)) (0 : Int32) (r_full_v f c C))), l)) rfl rfl (fl_bo rfl) rfl ?_
  refine fl_Tq.cS (c := (500 : Int32)) rfl (by decide +kernel) (fl_bo rfl) ?_
  refine fl_Tq.dv rfl (fl_bo rfl) (by decide +kernel) ?_
  refine fl_Tq.stp (pc' := 70) (lv' := [some (.inr (.inr (.inl (76, 277)))), some (.inl c), some (.inl ((f 280 5) / (1000 : Int32)))]) (st' := [.inl ((f 280 (444 + 61 * C + 3)) + (((((f 280 5) / (1000 : Int32)) * ((f 280 5) / (1000 : Int32))) * (f 280 (444 + 61 * C + 2))) / (500 : Int32))), .inl (3 : Int32), .inl c, .inr (.inr (.inl (76, 277)))]) (m' := (fl_row f 280 (upd (f 280) (444 + 61 * C + 1) (r_held_v (((f 280 (444 + 61 * C + 1)) + (f 280 5)) - (f 280 61)) (0 : Int32) (r_full_v f c C))), l)) rfl rfl (fl_bo rfl) rfl ?_
  refine fl_Tq.cal rfl rfl (fl_bo rfl) rfl ?_
  refine t2_let (C := C) (W := 3) (m' := (fl_row f 280 (upd (upd (f 280) (444 + 61 * C + 1) (r_held_v (((f 280 (444 + 61 * C + 1)) + (f 280 5)) - (f 280 61)) (0 : Int32) (r_full_v f c C))) (444 + 61 * C + 3) ((f 280 (444 + 61 * C + 3)) + (((((f 280 5) / (1000 : Int32)) * ((f 280 5) / (1000 : Int32))) * (f 280 (444 + 61 * C + 2))) / (500 : Int32)))), l)) hc (by decide +kernel) hC (by decide) (t2_upr) ?_
  show fl_Tq _ 215 73 [some (.inr (.inr (.inl (76, 277)))), some (.inl c), some (.inl ((f 280 5) / (1000 : Int32)))] [] (fl_row f 280 (upd (upd (f 280) (444 + 61 * C + 1) (r_held_v (((f 280 (444 + 61 * C + 1)) + (f 280 5)) - (f 280 61)) (0 : Int32) (r_full_v f c C))) (444 + 61 * C + 3) ((f 280 (444 + 61 * C + 3)) + (((((f 280 5) / (1000 : Int32)) * ((f 280 5) / (1000 : Int32))) * (f 280 (444 + 61 * C + 2))) / (500 : Int32)))), l) _
  refine fl_Tq.stp (pc' := 74) (lv' := [some (.inr (.inr (.inl (76, 277)))), some (.inl c), some (.inl ((f 280 5) / (1000 : Int32)))]) (st' := [.inr (.inr (.inl (76, 277)))]) (m' := (fl_row f 280 (upd (upd (f 280) (444 + 61 * C + 1) (r_held_v (((f 280 (444 + 61 * C + 1)) + (f 280 5)) - (f 280 61)) (0 : Int32) (r_full_v f c C))) (444 + 61 * C + 3) ((f 280 (444 + 61 * C + 3)) + (((((f 280 5) / (1000 : Int32)) * ((f 280 5) / (1000 : Int32))) * (f 280 (444 + 61 * C + 2))) / (500 : Int32)))), l)) rfl rfl (fl_bo rfl) rfl ?_
  refine fl_Tq.stp (pc' := 75) (lv' := [some (.inr (.inr (.inl (76, 277)))), some (.inl c), some (.inl ((f 280 5) / (1000 : Int32)))]) (st' := [.inl c, .inr (.inr (.inl (76, 277)))]) (m' := (fl_row f 280 (upd (upd (f 280) (444 + 61 * C + 1) (r_held_v (((f 280 (444 + 61 * C + 1)) + (f 280 5)) - (f 280 61)) (0 : Int32) (r_full_v f c C))) (444 + 61 * C + 3) ((f 280 (444 + 61 * C + 3)) + (((((f 280 5) / (1000 : Int32)) * ((f 280 5) / (1000 : Int32))) * (f 280 (444 + 61 * C + 2))) / (500 : Int32)))), l)) rfl rfl (fl_bo rfl) rfl ?_
  refine fl_Tq.cI (c := (3 : Int32)) rfl (by decide +kernel) (fl_bo rfl) ?_
  refine fl_Tq.stp (pc' := 77) (lv' := [some (.inr (.inr (.inl (76, 277)))), some (.inl c), some (.inl ((f 280 5) / (1000 : Int32)))]) (st' := [.inr (.inr (.inl (76, 277))), .inl (3 : Int32), .inl c, .inr (.inr (.inl (76, 277)))]) (m' := (fl_row f 280 (upd (upd (f 280) (444 + 61 * C + 1) (r_held_v (((f 280 (444 + 61 * C + 1)) + (f 280 5)) - (f 280 61)) (0 : Int32) (r_full_v f c C))) (444 + 61 * C + 3) ((f 280 (444 + 61 * C + 3)) + (((((f 280 5) / (1000 : Int32)) * ((f 280 5) / (1000 : Int32))) * (f 280 (444 + 61 * C + 2))) / (500 : Int32)))), l)) rfl rfl (fl_bo rfl) rfl ?_
  refine fl_Tq.stp (pc' := 78) (lv' := [some (.inr (.inr (.inl (76, 277)))), some (.inl c), some (.inl ((f 280 5) / (1000 : Int32)))]) (st' := [.inl c, .inr (.inr (.inl (76, 277))), .inl (3 : Int32), .inl c, .inr (.inr (.inl (76, 277)))]) (m' := (fl_row f 280 (upd (upd (f 280) (444 + 61 * C + 1) (r_held_v (((f 280 (444 + 61 * C + 1)) + (f 280 5)) - (f 280 61)) (0 : Int32) (r_full_v f c C))) (444 + 61 * C + 3) ((f 280 (444 + 61 * C + 3)) + (((((f 280 5) / (1000 : Int32)) * ((f 280 5) / (1000 : Int32))) * (f 280 (444 + 61 * C + 2))) / (500 : Int32)))), l)) rfl rfl (fl_bo rfl) rfl ?_
  refine fl_Tq.cI (c := (3 : Int32)) rfl (by decide +kernel) (fl_bo rfl) ?_
  refine fl_Tq.cal rfl rfl (fl_bo rfl) rfl ?_
  refine t2_get (C := C) (W := 3) (v := (f 280 (444 + 61 * C + 3)) + (((((f 280 5) / (1000 : Int32)) * ((f 280 5) / (1000 : Int32))) * (f 280 (444 + 61 * C + 2))) / (500 : Int32))) hc (by decide +kernel) hC (by decide) (by simp only [fl_row_self, upd_self]) ?_
  show fl_Tq _ 215 82 [some (.inr (.inr (.inl (76, 277)))), some (.inl c), some (.inl ((f 280 5) / (1000 : Int32)))] [.inl ((f 280 (444 + 61 * C + 3)) + (((((f 280 5) / (1000 : Int32)) * ((f 280 5) / (1000 : Int32))) * (f 280 (444 + 61 * C + 2))) / (500 : Int32))), .inl (3 : Int32), .inl c, .inr (.inr (.inl (76, 277)))] (fl_row f 280 (upd (upd (f 280) (444 + 61 * C + 1) (r_held_v (((f 280 (444 + 61 * C + 1)) + (f 280 5)) - (f 280 61)) (0 : Int32) (r_full_v f c C))) (444 + 61 * C + 3) ((f 280 (444 + 61 * C + 3)) + (((((f 280 5) / (1000 : Int32)) * ((f 280 5) / (1000 : Int32))) * (f 280 (444 + 61 * C + 2))) / (500 : Int32)))), l) _
  refine fl_Tq.stp (pc' := 83) (lv' := [some (.inr (.inr (.inl (76, 277)))), some (.inl c), some (.inl ((f 280 5) / (1000 : Int32)))]) (st' := [.inr (.inr (.inl (76, 277))), .inl ((f 280 (444 + 61 * C + 3)) + (((((f 280 5) / (1000 : Int32)) * ((f 280 5) / (1000 : Int32))) * (f 280 (444 + 61 * C + 2))) / (500 : Int32))), .inl (3 : Int32), .inl c, .inr (.inr (.inl (76, 277)))]) (m' := (fl_row f 280 (upd (upd (f 280) (444 + 61 * C + 1) (r_held_v (((f 280 (444 + 61 * C + 1)) + (f 280 5)) - (f 280 61)) (0 : Int32) (r_full_v f c C))) (444 + 61 * C + 3) ((f 280 (444 + 61 * C + 3)) + (((((f 280 5) / (1000 : Int32)) * ((f 280 5) / (1000 : Int32))) * (f 280 (444 + 61 * C + 2))) / (500 : Int32)))), l)) rfl rfl (fl_bo rfl) rfl ?_
  refine fl_Tq.cB (c := (6 : Int32)) rfl (by decide +kernel) (fl_bo rfl) ?_
  refine fl_Tq.cal rfl rfl (fl_bo rfl) rfl ?_
  refine t2_its (W := 6) (v := f 280 40) (by decide +kernel) (by decide) (by simp only [fl_row_self, upd_ne (by omega : 40 ≠ 444 + 61 * C + 3), upd_ne (by omega : 40 ≠ 444 + 61 * C + 1)]) ?_
  show fl_Tq _ 215 88 [some (.inr (.inr (.inl (76, 277)))), some (.inl c), some (.inl ((f 280 5) / (1000 : Int32)))] [.inl (f 280 40), .inl ((f 280 (444 + 61 * C + 3)) + (((((f 280 5) / (1000 : Int32)) * ((f 280 5) / (1000 : Int32))) * (f 280 (444 + 61 * C + 2))) / (500 : Int32))), .inl (3 : Int32), .inl c, .inr (.inr (.inl (76, 277)))] (fl_row f 280 (upd (upd (f 280) (444 + 61 * C + 1) (r_held_v (((f 280 (444 + 61 * C + 1)) + (f 280 5)) - (f 280 61)) (0 : Int32) (r_full_v f c C))) (444 + 61 * C + 3) ((f 280 (444 + 61 * C + 3)) + (((((f 280 5) / (1000 : Int32)) * ((f 280 5) / (1000 : Int32))) * (f 280 (444 + 61 * C + 2))) / (500 : Int32)))), l) _
  refine fl_Tq.stp (pc' := 89) (lv' := [some (.inr (.inr (.inl (76, 277)))), some (.inl c), some (.inl ((f 280 5) / (1000 : Int32)))]) (st' := [.inr (.inr (.inl (76, 277))), .inl (f 280 40), .inl ((f 280 (444 + 61 * C + 3)) + (((((f 280 5) / (1000 : Int32)) * ((f 280 5) / (1000 : Int32))) * (f 280 (444 + 61 * C + 2))) / (500 : Int32))), .inl (3 : Int32), .inl c, .inr (.inr (.inl (76, 277)))]) (m' := (fl_row f 280 (upd (upd (f 280) (444 + 61 * C + 1) (r_held_v (((f 280 (444 + 61 * C + 1)) + (f 280 5)) - (f 280 61)) (0 : Int32) (r_full_v f c C))) (444 + 61 * C + 3) ((f 280 (444 + 61 * C + 3)) + (((((f 280 5) / (1000 : Int32)) * ((f 280 5) / (1000 : Int32))) * (f 280 (444 + 61 * C + 2))) / (500 : Int32)))), l)) rfl rfl (fl_bo rfl) rfl ?_
  refine fl_Tq.stp (pc' := 90) (lv' := [some (.inr (.inr (.inl (76, 277)))), some (.inl c), some (.inl ((f 280 5) / (1000 : Int32)))]) (st' := [.inl c, .inr (.inr (.inl (76, 277))), .inl (f 280 40), .inl ((f 280 (444 + 61 * C + 3)) + (((((f 280 5) / (1000 : Int32)) * ((f 280 5) / (1000 : Int32))) * (f 280 (444 + 61 * C + 2))) / (500 : Int32))), .inl (3 : Int32), .inl c, .inr (.inr (.inl (76, 277)))]) (m' := (fl_row f 280 (upd (upd (f 280) (444 + 61 * C + 1) (r_held_v (((f 280 (444 + 61 * C + 1)) + (f 280 5)) - (f 280 61)) (0 : Int32) (r_full_v f c C))) (444 + 61 * C + 3) ((f 280 (444 + 61 * C + 3)) + (((((f 280 5) / (1000 : Int32)) * ((f 280 5) / (1000 : Int32))) * (f 280 (444 + 61 * C + 2))) / (500 : Int32)))), l)) rfl rfl (fl_bo rfl) rfl ?_
  refine fl_Tq.cI (c := (3 : Int32)) rfl (by decide +kernel) (fl_bo rfl) ?_
  refine fl_Tq.cal rfl rfl (fl_bo rfl) rfl ?_
  refine t2_get (C := C) (W := 3) (v := (f 280 (444 + 61 * C + 3)) + (((((f 280 5) / (1000 : Int32)) * ((f 280 5) / (1000 : Int32))) * (f 280 (444 + 61 * C + 2))) / (500 : Int32))) hc (by decide +kernel) hC (by decide) (by simp only [fl_row_self, upd_self]) ?_
  show fl_Tq _ 215 94 [some (.inr (.inr (.inl (76, 277)))), some (.inl c), some (.inl ((f 280 5) / (1000 : Int32)))] [.inl ((f 280 (444 + 61 * C + 3)) + (((((f 280 5) / (1000 : Int32)) * ((f 280 5) / (1000 : Int32))) * (f 280 (444 + 61 * C + 2))) / (500 : Int32))), .inl (f 280 40), .inl ((f 280 (444 + 61 * C + 3)) + (((((f 280 5) / (1000 : Int32)) * ((f 280 5) / (1000 : Int32))) * (f 280 (444 + 61 * C + 2))) / (500 : Int32))), .inl (3 : Int32), .inl c, .inr (.inr (.inl (76, 277)))] (fl_row f 280 (upd (upd (f 280) (444 + 61 * C + 1) (r_held_v (((f 280 (444 + 61 * C + 1)) + (f 280 5)) - (f 280 61)) (0 : Int32) (r_full_v f c C))) (444 + 61 * C + 3) ((f 280 (444 + 61 * C + 3)) + (((((f 280 5) / (1000 : Int32)) * ((f 280 5) / (1000 : Int32))) * (f 280 (444 + 61 * C + 2))) / (500 : Int32)))), l) _
  refine fl_Tq.stp (pc' := 95) (lv' := [some (.inr (.inr (.inl (76, 277)))), some (.inl c), some (.inl ((f 280 5) / (1000 : Int32)))]) (st' := [.inl ((f 280 40) - ((f 280 (444 + 61 * C + 3)) + (((((f 280 5) / (1000 : Int32)) * ((f 280 5) / (1000 : Int32))) * (f 280 (444 + 61 * C + 2))) / (500 : Int32)))), .inl ((f 280 (444 + 61 * C + 3)) + (((((f 280 5) / (1000 : Int32)) * ((f 280 5) / (1000 : Int32))) * (f 280 (444 + 61 * C + 2))) / (500 : Int32))), .inl (3 : Int32), .inl c, .inr (.inr (.inl (76, 277)))]) (m' := (fl_row f 280 (upd (upd (f 280) (444 + 61 * C + 1) (r_held_v (((f 280 (444 + 61 * C + 1)) + (f 280 5)) - (f 280 61)) (0 : Int32) (r_full_v f c C))) (444 + 61 * C + 3) ((f 280 (444 + 61 * C + 3)) + (((((f 280 5) / (1000 : Int32)) * ((f 280 5) / (1000 : Int32))) * (f 280 (444 + 61 * C + 2))) / (500 : Int32)))), l)) rfl rfl (fl_bo rfl) rfl ?_
  refine fl_Tq.cB (c := (32 : Int32)) rfl (by decide +kernel) (fl_bo rfl) ?_
  refine fl_Tq.dv rfl (fl_bo rfl) (by decide +kernel) ?_
  refine fl_Tq.stp (pc' := 99) (lv' := [some (.inr (.inr (.inl (76, 277)))), some (.inl c), some (.inl ((f 280 5) / (1000 : Int32)))]) (st' := [.inl (((f 280 (444 + 61 * C + 3)) + (((((f 280 5) / (1000 : Int32)) * ((f 280 5) / (1000 : Int32))) * (f 280 (444 + 61 * C + 2))) / (500 : Int32))) + (((f 280 40) - ((f 280 (444 + 61 * C + 3)) + (((((f 280 5) / (1000 : Int32)) * ((f 280 5) / (1000 : Int32))) * (f 280 (444 + 61 * C + 2))) / (500 : Int32)))) / (32 : Int32))), .inl (3 : Int32), .inl c, .inr (.inr (.inl (76, 277)))]) (m' := (fl_row f 280 (upd (upd (f 280) (444 + 61 * C + 1) (r_held_v (((f 280 (444 + 61 * C + 1)) + (f 280 5)) - (f 280 61)) (0 : Int32) (r_full_v f c C))) (444 + 61 * C + 3) ((f 280 (444 + 61 * C + 3)) + (((((f 280 5) / (1000 : Int32)) * ((f 280 5) / (1000 : Int32))) * (f 280 (444 + 61 * C + 2))) / (500 : Int32)))), l)) rfl rfl (fl_bo rfl) rfl ?_
  refine fl_Tq.cal rfl rfl (fl_bo rfl) rfl ?_
  refine t2_let (C := C) (W := 3) (m' := (fl_row f 280 (upd (upd (f 280) (444 + 61 * C + 1) (r_held_v (((f 280 (444 + 61 * C + 1)) + (f 280 5)) - (f 280 61)) (0 : Int32) (r_full_v f c C))) (444 + 61 * C + 3) (((f 280 (444 + 61 * C + 3)) + (((((f 280 5) / (1000 : Int32)) * ((f 280 5) / (1000 : Int32))) * (f 280 (444 + 61 * C + 2))) / (500 : Int32))) + (((f 280 40) - ((f 280 (444 + 61 * C + 3)) + (((((f 280 5) / (1000 : Int32)) * ((f 280 5) / (1000 : Int32))) * (f 280 (444 + 61 * C + 2))) / (500 : Int32)))) / (32 : Int32)))), l)) hc (by decide +kernel) hC (by decide) (t2_upo) ?_
  show fl_Tq _ 215 102 [some (.inr (.inr (.inl (76, 277)))), some (.inl c), some (.inl ((f 280 5) / (1000 : Int32)))] [] (fl_row f 280 (upd (upd (f 280) (444 + 61 * C + 1) (r_held_v (((f 280 (444 + 61 * C + 1)) + (f 280 5)) - (f 280 61)) (0 : Int32) (r_full_v f c C))) (444 + 61 * C + 3) (((f 280 (444 + 61 * C + 3)) + (((((f 280 5) / (1000 : Int32)) * ((f 280 5) / (1000 : Int32))) * (f 280 (444 + 61 * C + 2))) / (500 : Int32))) + (((f 280 40) - ((f 280 (444 + 61 * C + 3)) + (((((f 280 5) / (1000 : Int32)) * ((f 280 5) / (1000 : Int32))) * (f 280 (444 + 61 * C + 2))) / (500 : Int32)))) / (32 : Int32)))), l) _
  exact fl_Tq.ret rfl rfl rfl k
