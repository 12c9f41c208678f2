/-! 91.15.g10.lean.txt -/
section
noncomputable def r_chargeAt_v (f : t2_F) (c : Int32) (C : Nat) (x : Int32) : Int32 := ((((36 : Int64) * x.toInt64) * ((f 280 (444 + 61 * C + 0)).toInt64)) / (10 : Int64)).toInt32
theorem r_chargeAt_q {L : Nat} {xs : Nat → Int32} {f : t2_F} {l : t2_L} {Q : Option fl_V → fl_M → Prop} {c : Int32} {C : Nat} {x : Int32} (hc : c.toInt = (C : Int)) (hC : C < 16) (k : Q (some (.inl (r_chargeAt_v f c C x))) (f, l)) : fl_Tq (pw_P L xs) 199 0 (fl_args (am_mxl (pw_P L xs) 199) [.inr (.inr (.inl (76, 277))), .inl c, .inl x]) [] (f, l) Q := by
  refine fl_Tq.stp (pc' := 3) (lv' := [some (.inr (.inr (.inl (76, 277)))), some (.inl c), some (.inl x)]) (st' := [.inr (.inl (36 : Int64))]) (m' := (f, l)) rfl rfl (fl_bo rfl) rfl ?_
  refine fl_Tq.stp (pc' := 4) (lv' := [some (.inr (.inr (.inl (76, 277)))), some (.inl c), some (.inl x)]) (st' := [.inl x, .inr (.inl (36 : Int64))]) (m' := (f, l)) rfl rfl (fl_bo rfl) rfl ?_
  refine fl_Tq.stp (pc' := 5) (lv' := [some (.inr (.inr (.inl (76, 277)))), some (.inl c), some (.inl x)]) (st' := [.inr (.inl x.toInt64), .inr (.inl (36 : Int64))]) (m' := (f, l)) rfl rfl (fl_bo rfl) rfl ?_
  refine fl_Tq.stp (pc' := 6) (lv' := [some (.inr (.inr (.inl (76, 277)))), some (.inl c), some (.inl x)]) (st' := [.inr (.inl ((36 : Int64) * x.toInt64))]) (m' := (f, l)) rfl rfl (fl_bo rfl) rfl ?_
  refine fl_Tq.stp (pc' := 7) (lv' := [some (.inr (.inr (.inl (76, 277)))), some (.inl c), some (.inl x)]) (st' := [.inr (.inr (.inl (76, 277))), .inr (.inl ((36 : Int64) * x.toInt64))]) (m' := (f, l)) rfl rfl (fl_bo rfl) rfl ?_
  refine fl_Tq.stp (pc' := 8) (lv' := [some (.inr (.inr (.inl (76, 277)))), some (.inl c), some (.inl x)]) (st' := [.inl c, .inr (.inr (.inl (76, 277))), .inr (.inl ((36 : Int64) * x.toInt64))]) (m' := (f, l)) rfl rfl (fl_bo rfl) rfl ?_
  refine fl_Tq.cI (c := (0 : Int32)) rfl (by decide +kernel) (fl_bo rfl) ?_
  refine fl_Tq.cal rfl rfl (fl_bo rfl) rfl ?_
  refine t2_get (C := C) (W := 0) (v := f 280 (444 + 61 * C + 0)) hc (by decide +kernel) hC (by decide) rfl ?_
  show fl_Tq _ 199 12 [some (.inr (.inr (.inl (76, 277)))), some (.inl c), some (.inl x)] [.inl (f 280 (444 + 61 * C + 0)), .inr (.inl ((36 : Int64) * x.toInt64))] (f, l) _
  refine fl_Tq.stp (pc' := 13) (lv' := [some (.inr (.inr (.inl (76, 277)))), some (.inl c), some (.inl x)]) (st' := [.inr (.inl ((f 280 (444 + 61 * C + 0)).toInt64)), .inr (.inl ((36 : Int64) * x.toInt64))]) (m' := (f, l)) rfl rfl (fl_bo rfl) rfl ?_
  refine fl_Tq.stp (pc' := 14) (lv' := [some (.inr (.inr (.inl (76, 277)))), some (.inl c), some (.inl x)]) (st' := [.inr (.inl (((36 : Int64) * x.toInt64) * ((f 280 (444 + 61 * C + 0)).toInt64)))]) (m' := (f, l)) rfl rfl (fl_bo rfl) rfl ?_
  refine fl_Tq.stp (pc' := 17) (lv' := [some (.inr (.inr (.inl (76, 277)))), some (.inl c), some (.inl x)]) (st' := [.inr (.inl (10 : Int64)), .inr (.inl (((36 : Int64) * x.toInt64) * ((f 280 (444 + 61 * C + 0)).toInt64)))]) (m' := (f, l)) rfl rfl (fl_bo rfl) rfl ?_
  refine fl_Tq.dvJ rfl (fl_bo rfl) (by decide +kernel) ?_
  refine fl_Tq.stp (pc' := 19) (lv' := [some (.inr (.inr (.inl (76, 277)))), some (.inl c), some (.inl x)]) (st' := [.inl (((((36 : Int64) * x.toInt64) * ((f 280 (444 + 61 * C + 0)).toInt64)) / (10 : Int64)).toInt32)]) (m' := (f, l)) rfl rfl (fl_bo rfl) rfl ?_
  exact fl_Tq.ret rfl rfl rfl k
noncomputable def r_restNow_j32_0 (f : t2_F) (c : Int32) (C : Nat) : Int32 := if (f 280 (444 + 61 * C + 16)).toInt = (-1 : Int32).toInt then f 280 (444 + 61 * C + 12) else (if (r_size_v ((t2_pb (r_voltsOf_v f c C)) - (f 280 (444 + 61 * C + 16)))).toInt < (100 : Int32).toInt then f 280 (444 + 61 * C + 12) else (((1000 : Int64) * ((r_size_v (f 280 (444 + 61 * C + 13))).toInt64)) / (((3600 : Int32) * (r_size_v ((t2_pb (r_voltsOf_v f c C)) - (f 280 (444 + 61 * C + 16))))).toInt64)).toInt32)
noncomputable def r_restNow_m (f : t2_F) (c : Int32) (C : Nat) : t2_F := fl_row f 280 (upd (upd (upd (upd (f 280) (444 + 61 * C + 4) (r_chargeAt_v f c C (t2_pb (r_voltsOf_v f c C)))) (444 + 61 * C + 12) (r_restNow_j32_0 f c C)) (444 + 61 * C + 16) (t2_pb (r_voltsOf_v f c C))) (444 + 61 * C + 13) (0 : Int32))
theorem r_restNow_fr {f : t2_F} {c : Int32} {C : Nat} {p : Nat}  (e280 : p ≠ 280) : r_restNow_m f c C p = f p := by
  unfold r_restNow_m
  repeat' split
  all_goals first | rfl | simp only [fl_row_ne e280]
theorem r_restNow_w {f : t2_F} {c : Int32} {C : Nat} {w : Nat} (e0 : w ≠ 444 + 61 * C + 4) (e1 : w ≠ 444 + 61 * C + 12) (e2 : w ≠ 444 + 61 * C + 16) (e3 : w ≠ 444 + 61 * C + 13) : r_restNow_m f c C 280 w = f 280 w := by
  unfold r_restNow_m
  repeat' split
  all_goals first | rfl | simp only [fl_row_self, upd_ne e0, upd_ne e1, upd_ne e2, upd_ne e3]
theorem r_restNow_q {L : Nat} {xs : Nat → Int32} {f : t2_F} {l : t2_L} {Q : Option fl_V → fl_M → Prop} {c : Int32} {C : Nat} (hc : c.toInt = (C : Int)) (hC : C < 16) (hr : t2_RS f) (hk : t2_ck f C) (hw : -1 ≤ (f 280 (444 + 61 * C + 16)).toInt ∧ (f 280 (444 + 61 * C + 16)).toInt ≤ 1000) (k : Q none (r_restNow_m f c C, l)) : fl_Tq (pw_P L xs) 224 0 (fl_args (am_mxl (pw_P L xs) 224) [.inr (.inr (.inl (76, 277))), .inl c]) [] (f, l) Q := by
  refine fl_Tq.stp (pc' := 1) (lv' := [some (.inr (.inr (.inl (76, 277)))), some (.inl c), none, none]) (st' := [.inr (.inr (.inl (76, 277)))]) (m' := (f, l)) rfl rfl (fl_bo rfl) rfl ?_
  refine fl_Tq.stp (pc' := 2) (lv' := [some (.inr (.inr (.inl (76, 277)))), some (.inl c), none, none]) (st' := [.inr (.inr (.inl (76, 277))), .inr (.inr (.inl (76, 277)))]) (m' := (f, l)) rfl rfl (fl_bo rfl) rfl ?_
  refine fl_Tq.stp (pc' := 3) (lv' := [some (.inr (.inr (.inl (76, 277)))), some (.inl c), none, none]) (st' := [.inl c, .inr (.inr (.inl (76, 277))), .inr (.inr (.inl (76, 277)))]) (m' := (f, l)) rfl rfl (fl_bo rfl) rfl ?_
  refine fl_Tq.cal rfl rfl (fl_bo rfl) rfl ?_
  refine r_voltsOf_q hc hC hr hk ?_
  show fl_Tq _ 224 6 [some (.inr (.inr (.inl (76, 277)))), some (.inl c), none, none] [.inl (r_voltsOf_v f c C), .inr (.inr (.inl (76, 277)))] (f, l) _
  refine fl_Tq.cal rfl rfl (fl_bo rfl) rfl ?_
  refine r_leastBy_q hr ?_
  show fl_Tq _ 224 9 [some (.inr (.inr (.inl (76, 277)))), some (.inl c), none, none] [.inl (t2_pb (r_voltsOf_v f c C))] (f, l) _
  refine fl_Tq.stp (pc' := 10) (lv' := [some (.inr (.inr (.inl (76, 277)))), some (.inl c), some (.inl (t2_pb (r_voltsOf_v f c C))), none]) (st' := []) (m' := (f, l)) rfl rfl (fl_bo rfl) rfl ?_
  refine fl_Tq.stp (pc' := 11) (lv' := [some (.inr (.inr (.inl (76, 277)))), some (.inl c), some (.inl (t2_pb (r_voltsOf_v f c C))), none]) (st' := [.inr (.inr (.inl (76, 277)))]) (m' := (f, l)) rfl rfl (fl_bo rfl) rfl ?_
  refine fl_Tq.stp (pc' := 12) (lv' := [some (.inr (.inr (.inl (76, 277)))), some (.inl c), some (.inl (t2_pb (r_voltsOf_v f c C))), none]) (st' := [.inl c, .inr (.inr (.inl (76, 277)))]) (m' := (f, l)) rfl rfl (fl_bo rfl) rfl ?_
  refine fl_Tq.cB (c := (16 : Int32)) rfl (by decide +kernel) (fl_bo rfl) ?_
  refine fl_Tq.cal rfl rfl (fl_bo rfl) rfl ?_
  refine t2_get (C := C) (W := 16) (v := f 280 (444 + 61 * C + 16)) hc (by decide +kernel) hC (by decide) rfl ?_
  show fl_Tq _ 224 17 [some (.inr (.inr (.inl (76, 277)))), some (.inl c), some (.inl (t2_pb (r_voltsOf_v f c C))), none] [.inl (f 280 (444 + 61 * C + 16))] (f, l) _
  refine fl_Tq.stp (pc' := 18) (lv' := [some (.inr (.inr (.inl (76, 277)))), some (.inl c), some (.inl (t2_pb (r_voltsOf_v f c C))), some (.inl (f 280 (444 + 61 * C + 16)))]) (st' := []) (m' := (f, l)) rfl rfl (fl_bo rfl) rfl ?_
  refine fl_Tq.stp (pc' := 19) (lv' := [some (.inr (.inr (.inl (76, 277)))), some (.inl c), some (.inl (t2_pb (r_voltsOf_v f c C))), some (.inl (f 280 (444 + 61 * C + 16)))]) (st' := [.inr (.inr (.inl (76, 277)))]) (m' := (f, l)) rfl rfl (fl_bo rfl) rfl ?_
  refine fl_Tq.stp (pc' := 20) (lv' := [some (.inr (.inr (.inl (76, 277)))), some (.inl c), some (.inl (t2_pb (r_voltsOf_v f c C))), some (.inl (f 280 (444 + 61 * C + 16)))]) (st' := [.inl c, .inr (.inr (.inl (76, 277)))]) (m' := (f, l)) rfl rfl (fl_bo rfl) rfl ?_
  refine fl_Tq.cI (c := (4 : Int32)) rfl (by decide +kernel) (fl_bo rfl) ?_
  refine fl_Tq.stp (pc' := 22) (lv' := [some (.inr (.inr (.inl (76, 277)))), some (.inl c), some (.inl (t2_pb (r_voltsOf_v f c C))), some (.inl (f 280 (444 + 61 * C + 16)))]) (st' := [.inr (.inr (.inl (76, 277))), .inl (4 : Int32), .inl c, .inr (.inr (.inl (76, 277)))]) (m' := (f, l)) rfl rfl (fl_bo rfl) rfl ?_
  refine fl_Tq.stp (pc' := 23) (lv' := [some (.inr (.inr (.inl (76, 277)))), some (.inl c), some (.inl (t2_pb (r_voltsOf_v f c C))), some (.inl (f 280 (444 + 61 * C + 16)))]) (st' := [.inl c, .inr (.inr (.inl (76, 277))), .inl (4 : Int32), .inl c, .inr (.inr (.inl (76, 277)))]) (m' := (f, l)) rfl rfl (fl_bo rfl) rfl ?_
  refine fl_Tq.stp (pc' := 24) (lv' := [some (.inr (.inr (.inl (76, 277)))), some (.inl c), some (.inl (t2_pb (r_voltsOf_v f c C))), some (.inl (f 280 (444 + 61 * C + 16)))]) (st' := [.inl (t2_pb (r_voltsOf_v f c C)), .inl c, .inr (.inr (.inl (76, 277))), .inl (4 : Int32), .inl c, .inr (.inr (.inl (76, 277)))]) (m' := (f, l)) rfl rfl (fl_bo rfl) rfl ?_
  refine fl_Tq.cal rfl rfl (fl_bo rfl) rfl ?_
  refine r_chargeAt_q hc hC ?_
  show fl_Tq _ 224 27 [some (.inr (.inr (.inl (76, 277)))), some (.inl c), some (.inl (t2_pb (r_voltsOf_v f c C))), some (.inl (f 280 (444 + 61 * C + 16)))] [.inl (r_chargeAt_v f c C (t2_pb (r_voltsOf_v f c C))), .inl (4 : Int32), .inl c, .inr (.inr (.inl (76, 277)))] (f, l) _
  refine fl_Tq.cal rfl rfl (fl_bo rfl) rfl ?_
  refine t2_let (C := C) (W := 4) (m' := (fl_row f 280 (upd (f 280) (444 + 61 * C + 4) (r_chargeAt_v f c C (t2_pb (r_voltsOf_v f c C)))), l)) hc (by decide +kernel) hC (by decide) (t2_upn rfl) ?_
  show fl_Tq _ 224 30 [some (.inr (.inr (.inl (76, 277)))), some (.inl c), some (.inl (t2_pb (r_voltsOf_v f c C))), some (.inl (f 280 (444 + 61 * C + 16)))] [] (fl_row f 280 (upd (f 280) (444 + 61 * C + 4) (r_chargeAt_v f c C (t2_pb (r_voltsOf_v f c C)))), l) _
  refine fl_Tq.stp (pc' := 31) (lv' := [some (.inr (.inr (.inl (76, 277)))), some (.inl c), some (.inl (t2_pb (r_voltsOf_v f c C))), some (.inl (f 280 (444 + 61 * C + 16)))]) (st' := [.inl (f 280 (444 + 61 * C + 16))]) (m' := (fl_row f 280 (upd (f 280) (444 + 61 * C + 4) (r_chargeAt_v f c C (t2_pb (r_voltsOf_v f c C)))), l)) rfl rfl (fl_bo rfl) rfl ?_
  refine fl_Tq.cI (c := (-1 : Int32)) rfl (by decide +kernel) (fl_bo rfl) ?_
  have hj124 : fl_Tq (pw_P L xs) 224 81 [some (.inr (.inr (.inl (76, 277)))), some (.inl c), some (.inl (t2_pb (r_voltsOf_v f c C))), some (.inl (f 280 (444 + 61 * C + 16)))] [] (fl_row f 280 (upd (upd (f 280) (444 + 61 * C + 4) (r_chargeAt_v f c C (t2_pb (r_voltsOf_v f c C)))) (444 + 61 * C + 12) (r_restNow_j32_0 f c C)), l) Q → fl_Tq (pw_P L xs) 224 32 [some (.inr (.inr (.inl (76, 277)))), some (.inl c), some (.inl (t2_pb (r_voltsOf_v f c C))), some (.inl (f 280 (444 + 61 * C + 16)))] [.inl (-1 : Int32), .inl (f 280 (444 + 61 * C + 16))] (fl_row f 280 (upd (f 280) (444 + 61 * C + 4) (r_chargeAt_v f c C (t2_pb (r_voltsOf_v f c C)))), l) Q := by
    intro hJ
    by_cases h1 : (f 280 (444 + 61 * C + 16)).toInt = (-1 : Int32).toInt
    · refine fl_Tq.jt rfl (fl_bo rfl) (c2_eq_t h1) rfl ?_
      have e0 : (fl_row f 280 (upd (upd (f 280) (444 + 61 * C + 4) (r_chargeAt_v f c C (t2_pb (r_voltsOf_v f c C)))) (444 + 61 * C + 12) (r_restNow_j32_0 f c C))) = fl_row f 280 (upd (f 280) (444 + 61 * C + 4) (r_chargeAt_v f c C (t2_pb (r_voltsOf_v f c C)))) := by
        simp only [r_restNow_j32_0, if_pos h1]
        funext q j
        simp only [fl_row, upd]
        repeat' split
        all_goals first | rfl | simp_all
      rw [e0] at hJ
      exact hJ
    · refine fl_Tq.jf rfl (fl_bo rfl) (c2_eq_f h1) rfl ?_
      refine fl_Tq.stp (pc' := 36) (lv' := [some (.inr (.inr (.inl (76, 277)))), some (.inl c), some (.inl (t2_pb (r_voltsOf_v f c C))), some (.inl (f 280 (444 + 61 * C + 16)))]) (st' := [.inl (t2_pb (r_voltsOf_v f c C))]) (m' := (fl_row f 280 (upd (f 280) (444 + 61 * C + 4) (r_chargeAt_v f c C (t2_pb (r_voltsOf_v f c C)))), l)) rfl rfl (fl_bo rfl) rfl ?_
      refine fl_Tq.stp (pc' := 37) (lv' := [some (.inr (.inr (.inl (76, 277)))), some (.inl c), some (.inl (t2_pb (r_voltsOf_v f c C))), some (.inl (f 280 (444 + 61 * C + 16)))]) (st' := [.inl (f 280 (444 + 61 * C + 16)), .inl (t2_pb (r_voltsOf_v f c C))]) (m' := (fl_row f 280 (upd (f 280) (444 + 61 * C + 4) (r_chargeAt_v f c C (t2_pb (r_voltsOf_v f c C)))), l)) rfl rfl (fl_bo rfl) rfl ?_
      refine fl_Tq.stp (pc' := 38) (lv' := [some (.inr (.inr (.inl (76, 277)))), some (.inl c), some (.inl (t2_pb (r_voltsOf_v f c C))), some (.inl (f 280 (444 + 61 * C + 16)))]) (st' := [.inl ((t2_pb (r_voltsOf_v f c C)) - (f 280 (444 + 61 * C + 16)))]) (m' := (fl_row f 280 (upd (f 280) (444 + 61 * C + 4) (r_chargeAt_v f c C (t2_pb (r_voltsOf_v f c C)))), l)) rfl rfl (fl_bo rfl) rfl ?_
      refine fl_Tq.cal rfl rfl (fl_bo rfl) rfl ?_
      refine r_size_q  ?_
      show fl_Tq _ 224 41 [some (.inr (.inr (.inl (76, 277)))), some (.inl c), some (.inl (t2_pb (r_voltsOf_v f c C))), some (.inl (f 280 (444 + 61 * C + 16)))] [.inl (r_size_v ((t2_pb (r_voltsOf_v f c C)) - (f 280 (444 + 61 * C + 16))))] (fl_row f 280 (upd (f 280) (444 + 61 * C + 4) (r_chargeAt_v f c C (t2_pb (r_voltsOf_v f c C)))), l) _
      refine fl_Tq.cB (c := (100 : Int32)) rfl (by decide +kernel) (fl_bo rfl) ?_
      by_cases h2 : (r_size_v ((t2_pb (r_voltsOf_v f c C)) - (f 280 (444 + 61 * C + 16)))).toInt < (100 : Int32).toInt
      · refine fl_Tq.jt rfl (fl_bo rfl) (c2_lt_t h2) rfl ?_
        have e0 : (fl_row f 280 (upd (upd (f 280) (444 + 61 * C + 4) (r_chargeAt_v f c C (t2_pb (r_voltsOf_v f c C)))) (444 + 61 * C + 12) (r_restNow_j32_0 f c C))) = fl_row f 280 (upd (f 280) (444 + 61 * C + 4) (r_chargeAt_v f c C (t2_pb (r_voltsOf_v f c C)))) := by
          simp only [r_restNow_j32_0, if_neg h1, if_pos h2]
          funext q j
          simp only [fl_row, upd]
          repeat' split
          all_goals first | rfl | simp_all
        rw [e0] at hJ
        exact hJ
      · refine fl_Tq.jf rfl (fl_bo rfl) (c2_lt_f h2) rfl ?_
        refine fl_Tq.stp (pc' := 47) (lv' := [some (.inr (.inr (.inl (76, 277)))), some (.inl c), some (.inl (t2_pb (r_voltsOf_v f c C))), some (.inl (f 280 (444 + 61 * C + 16)))]) (st' := [.inr (.inr (.inl (76, 277)))]) (m' := (fl_row f 280 (upd (f 280) (444 + 61 * C + 4) (r_chargeAt_v f c C (t2_pb (r_voltsOf_v f c C)))), l)) rfl rfl (fl_bo rfl) rfl ?_
        refine fl_Tq.stp (pc' := 48) (lv' := [some (.inr (.inr (.inl (76, 277)))), some (.inl c), some (.inl (t2_pb (r_voltsOf_v f c C))), some (.inl (f 280 (444 + 61 * C + 16)))]) (st' := [.inl c, .inr (.inr (.inl (76, 277)))]) (m' := (fl_row f 280 (upd (f 280) (444 + 61 * C + 4) (r_chargeAt_v f c C (t2_pb (r_voltsOf_v f c C)))), l)) rfl rfl (fl_bo rfl) rfl ?_
        refine fl_Tq.cB (c := (12 : Int32)) rfl (by decide +kernel) (fl_bo rfl) ?_
        refine fl_Tq.stp (pc' := 53) (lv' := [some (.inr (.inr (.inl (76, 277)))), some (.inl c), some (.inl (t2_pb (r_voltsOf_v f c C))), some (.inl (f 280 (444 + 61 * C + 16)))]) (st' := [.inr (.inl (1000 : Int64)), .inl (12 : Int32), .inl c, .inr (.inr (.inl (76, 277)))]) (m' := (fl_row f 280 (upd (f 280) (444 + 61 * C + 4) (r_chargeAt_v f c C (t2_pb (r_voltsOf_v f c C)))), l)) rfl rfl (fl_bo rfl) rfl ?_
        refine fl_Tq.stp (pc' := 54) (lv' := [some (.inr (.inr (.inl (76, 277)))), some (.inl c), some (.inl (t2_pb (r_voltsOf_v f c C))), some (.inl (f 280 (444 + 61 * C + 16)))]) (st' := [.inr (.inr (.inl (76, 277))), .inr (.inl (1000 : Int64)), .inl (12 : Int32), .inl c, .inr (.inr (.inl (76, 277)))]) (m' := (fl_row f 280 (upd (f 280) (444 + 61 * C + 4) (r_chargeAt_v f c C (t2_pb (r_voltsOf_v f c C)))), l)) rfl rfl (fl_bo rfl) rfl ?_
        refine fl_Tq.stp (pc' := 55) (lv' := [some (.inr (.inr (.inl (76, 277)))), some (.inl c), some (.inl (t2_pb (r_voltsOf_v f c C))), some (.inl (f 280 (444 + 61 * C + 16)))]) (st' := [.inl c, .inr (.inr (.inl (76, 277))), .inr (.inl (1000 : Int64)), .inl (12 : Int32), .inl c, .inr (.inr (.inl (76, 277)))]) (m' := (fl_row f 280 (upd (f 280) (444 + 61 * C + 4) (r_chargeAt_v f c C (t2_pb (r_voltsOf_v f c C)))), l)) rfl rfl (fl_bo rfl) rfl ?_
        refine fl_Tq.cB (c := (13 : Int32)) rfl (by decide +kernel) (fl_bo rfl) ?_
        refine fl_Tq.cal rfl rfl (fl_bo rfl) rfl ?_
        refine t2_get (C := C) (W := 13) (v := f 280 (444 + 61 * C + 13)) hc (by decide +kernel) hC (by decide) (by simp only [fl_row_self, upd_ne (by omega : 444 + 61 * C + 13 ≠ 444 + 61 * C + 4)]) ?_
        show fl_Tq _ 224 60 [some (.inr (.inr (.inl (76, 277)))), some (.inl c), some (.inl (t2_pb (r_voltsOf_v f c C))), some (.inl (f 280 (444 + 61 * C + 16)))] [.inl (f 280 (444 + 61 * C + 13)), .inr (.inl (1000 : Int64)), .inl (12 : Int32), .inl c, .inr (.inr (.inl (76, 277)))] (fl_row f 280 (upd (f 280) (444 + 61 * C + 4) (r_chargeAt_v f c C (t2_pb (r_voltsOf_v f c C)))), l) _
        refine fl_Tq.cal rfl rfl (fl_bo rfl) rfl ?_
        refine r_size_q  ?_
        show fl_Tq _ 224 63 [some (.inr (.inr (.inl (76, 277)))), some (.inl c), some (.inl (t2_pb (r_voltsOf_v f c C))), some (.inl (f 280 (444 + 61 * C + 16)))] [.inl (r_size_v (f 280 (444 + 61 * C + 13))), .inr (.inl (1000 : Int64)), .inl (12 : Int32), .inl c, .inr (.inr (.inl (76, 277)))] (fl_row f 280 (upd (f 280) (444 + 61 * C + 4) (r_chargeAt_v f c C (t2_pb (r_voltsOf_v f c C)))), l) _
        refine fl_Tq.stp (pc' := 64) (lv' := [some (.inr (.inr (.inl (76, 277)))), some (.inl c), some (.inl (t2_pb (r_voltsOf_v f c C))), some (.inl (f 280 (444 + 61 * C + 16)))]) (st' := [.inr (.inl ((r_size_v (f 280 (444 + 61 * C + 13))).toInt64)), .inr (.inl (1000 : Int64)), .inl (12 : Int32), .inl c, .inr (.inr (.inl (76, 277)))]) (m' := (fl_row f 280 (upd (f 280) (444 + 61 * C + 4) (r_chargeAt_v f c C (t2_pb (r_voltsOf_v f c C)))), l)) rfl rfl (fl_bo rfl) rfl ?_
        refine fl_Tq.stp (pc' := 65) (lv' := [some (.inr (.inr (.inl (76, 277)))), some (.inl c), some (.inl (t2_pb (r_voltsOf_v f c C))), some (.inl (f 280 (444 + 61 * C + 16)))]) (st' := [.inr (.inl ((1000 : Int64) * ((r_size_v (f 280 (444 + 61 * C + 13))).toInt64))), .inl (12 : Int32), .inl c, .inr (.inr (.inl (76, 277)))]) (m' := (fl_row f 280 (upd (f 280) (444 + 61 * C + 4) (r_chargeAt_v f c C (t2_pb (r_voltsOf_v f c C)))), l)) rfl rfl (fl_bo rfl) rfl ?_
        refine fl_Tq.cS (c := (3600 : Int32)) rfl (by decide +kernel) (fl_bo rfl) ?_
        refine fl_Tq.stp (pc' := 69) (lv' := [some (.inr (.inr (.inl (76, 277)))), some (.inl c), some (.inl (t2_pb (r_voltsOf_v f c C))), some (.inl (f 280 (444 + 61 * C + 16)))]) (st' := [.inl (t2_pb (r_voltsOf_v f c C)), .inl (3600 : Int32), .inr (.inl ((1000 : Int64) * ((r_size_v (f 280 (444 + 61 * C + 13))).toInt64))), .inl (12 : Int32), .inl c, .inr (.inr (.inl (76, 277)))]) (m' := (fl_row f 280 (upd (f 280) (444 + 61 * C + 4) (r_chargeAt_v f c C (t2_pb (r_voltsOf_v f c C)))), l)) rfl rfl (fl_bo rfl) rfl ?_
        refine fl_Tq.stp (pc' := 70) (lv' := [some (.inr (.inr (.inl (76, 277)))), some (.inl c), some (.inl (t2_pb (r_voltsOf_v f c C))), some (.inl (f 280 (444 + 61 * C + 16)))]) (st' := [.inl (f 280 (444 + 61 * C + 16)), .inl (t2_pb (r_voltsOf_v f c C)), .inl (3600 : Int32), .inr (.inl ((1000 : Int64) * ((r_size_v (f 280 (444 + 61 * C + 13))).toInt64))), .inl (12 : Int32), .inl c, .inr (.inr (.inl (76, 277)))]) (m' := (fl_row f 280 (upd (f 280) (444 + 61 * C + 4) (r_chargeAt_v f c C (t2_pb (r_voltsOf_v f c C)))), l)) rfl rfl (fl_bo rfl) rfl ?_
        refine fl_Tq.stp (pc' := 71) (lv' := [some (.inr (.inr (.inl (76, 277)))), some (.inl c), some (.inl (t2_pb (r_voltsOf_v f c C))), some (.inl (f 280 (444 + 61 * C + 16)))]) (st' := [.inl ((t2_pb (r_voltsOf_v f c C)) - (f 280 (444 + 61 * C + 16))), .inl (3600 : Int32), .inr (.inl ((1000 : Int64) * ((r_size_v (f 280 (444 + 61 * C + 13))).toInt64))), .inl (12 : Int32), .inl c, .inr (.inr (.inl (76, 277)))]) (m' := (fl_row f 280 (upd (f 280) (444 + 61 * C + 4) (r_chargeAt_v f c C (t2_pb (r_voltsOf_v f c C)))), l)) rfl rfl (fl_bo rfl) rfl ?_
        refine fl_Tq.cal rfl rfl (fl_bo rfl) rfl ?_
        refine r_size_q  ?_
        show fl_Tq _ 224 74 [some (.inr (.inr (.inl (76, 277)))), some (.inl c), some (.inl (t2_pb (r_voltsOf_v f c C))), some (.inl (f 280 (444 + 61 * C + 16)))] [.inl (r_size_v ((t2_pb (r_voltsOf_v f c C)) - (f 280 (444 + 61 * C + 16)))), .inl (3600 : Int32), .inr (.inl ((1000 : Int64) * ((r_size_v (f 280 (444 + 61 * C + 13))).toInt64))), .inl (12 : Int32), .inl c, .inr (.inr (.inl (76, 277)))] (fl_row f 280 (upd (f 280) (444 + 61 * C + 4) (r_chargeAt_v f c C (t2_pb (r_voltsOf_v f c C)))), l) _
        refine fl_Tq.stp (pc' := 75) (lv' := [some (.inr (.inr (.inl (76, 277)))), some (.inl c), some (.inl (t2_pb (r_voltsOf_v f c C))), some (.inl (f 280 (444 + 61 * C + 16)))]) (st' := [.inl ((3600 : Int32) * (r_size_v ((t2_pb (r_voltsOf_v f c C)) - (f 280 (444 + 61 * C + 16))))), .inr (.inl ((1000 : Int64) * ((r_size_v (f 280 (444 + 61 * C + 13))).toInt64))), .inl (12 : Int32), .inl c, .inr (.inr (.inl (76, 277)))]) (m' := (fl_row f 280 (upd (f 280) (444 + 61 * C + 4) (r_chargeAt_v f c C (t2_pb (r_voltsOf_v f c C)))), l)) rfl rfl (fl_bo rfl) rfl ?_
        refine fl_Tq.stp (pc' := 76) (lv' := [some (.inr (.inr (.inl (76, 277)))), some (.inl c), some (.inl (t2_pb (r_voltsOf_v f c C))), some (.inl (f 280 (444 + 61 * C + 16)))]) (st' := [.inr (.inl (((3600 : Int32) * (r_size_v ((t2_pb (r_voltsOf_v f c C)) - (f 280 (444 + 61 * C + 16))))).toInt64)), .inr (.inl ((1000 : Int64) * ((r_size_v (f 280 (444 + 61 * C + 13))).toInt64))), .inl (12 : Int32), .inl c, .inr (.inr (.inl (76, 277)))]) (m' := (fl_row f 280 (upd (f 280) (444 + 61 * C + 4) (r_chargeAt_v f c C (t2_pb (r_voltsOf_v f c C)))), l)) rfl rfl (fl_bo rfl) rfl ?_
        refine fl_Tq.dvJ rfl (fl_bo rfl) (t2_rest_nz (t2_pb_b _) hw h2) ?_
        refine fl_Tq.stp (pc' := 78) (lv' := [some (.inr (.inr (.inl (76, 277)))), some (.inl c), some (.inl (t2_pb (r_voltsOf_v f c C))), some (.inl (f 280 (444 + 61 * C + 16)))]) (st' := [.inl ((((1000 : Int64) * ((r_size_v (f 280 (444 + 61 * C + 13))).toInt64)) / (((3600 : Int32) * (r_size_v ((t2_pb (r_voltsOf_v f c C)) - (f 280 (444 + 61 * C + 16))))).toInt64)).toInt32), .inl (12 : Int32), .inl c, .inr (.inr (.inl (76, 277)))]) (m' := (fl_row f 280 (upd (f 280) (444 + 61 * C + 4) (r_chargeAt_v f c C (t2_pb (r_voltsOf_v f c C)))), l)) rfl rfl (fl_bo rfl) rfl ?_
        refine fl_Tq.cal rfl rfl (fl_bo rfl) rfl ?_
        refine t2_let (C := C) (W := 12) (m' := (fl_row f 280 (upd (upd (f 280) (444 + 61 * C + 4) (r_chargeAt_v f c C (t2_pb (r_voltsOf_v f c C)))) (444 + 61 * C + 12) ((((1000 : Int64) * ((r_size_v (f 280 (444 + 61 * C + 13))).toInt64)) / (((3600 : Int32) * (r_size_v ((t2_pb (r_voltsOf_v f c C)) - (f 280 (444 + 61 * C + 16))))).toInt64)).toInt32)), l)) hc (by decide +kernel) hC (by decide) (t2_upr) ?_
        show fl_Tq _ 224 81 [some (.inr (.inr (.inl (76, 277)))), some (.inl c), some (.inl (t2_pb (r_voltsOf_v f c C))), some (.inl (f 280 (444 + 61 * C + 16)))] [] (fl_row f 280 (upd (upd (f 280) (444 + 61 * C + 4) (r_chargeAt_v f c C (t2_pb (r_voltsOf_v f c C)))) (444 + 61 * C + 12) ((((1000 : Int64) * ((r_size_v (f 280 (444 + 61 * C + 13))).toInt64)) / (((3600 : Int32) * (r_size_v ((t2_pb (r_voltsOf_v f c C)) - (f 280 (444 + 61 * C + 16))))).toInt64)).toInt32)), l) _
        have e0 : (fl_row f 280 (upd (upd (f 280) (444 + 61 * C + 4) (r_chargeAt_v f c C (t2_pb (r_voltsOf_v f c C)))) (444 + 61 * C + 12) (r_restNow_j32_0 f c C))) = fl_row f 280 (upd (upd (f 280) (444 + 61 * C + 4) (r_chargeAt_v f c C (t2_pb (r_voltsOf_v f c C)))) (444 + 61 * C + 12) ((((1000 : Int64) * ((r_size_v (f 280 (444 + 61 * C + 13))).toInt64)) / (((3600 : Int32) * (r_size_v ((t2_pb (r_voltsOf_v f c C)) - (f 280 (444 + 61 * C + 16))))).toInt64)).toInt32)) := by
          simp only [r_restNow_j32_0, if_neg h1, if_neg h2]
        rw [e0] at hJ
        exact hJ
  refine hj124 ?_
  show fl_Tq _ 224 81 [some (.inr (.inr (.inl (76, 277)))), some (.inl c), some (.inl (t2_pb (r_voltsOf_v f c C))), some (.inl (f 280 (444 + 61 * C + 16)))] [] (fl_row f 280 (upd (upd (f 280) (444 + 61 * C + 4) (r_chargeAt_v f c C (t2_pb (r_voltsOf_v f c C)))) (444 + 61 * C + 12) (r_restNow_j32_0 f c C)), l) _
  refine fl_Tq.stp (pc' := 82) (lv' := [some (.inr (.inr (.inl (76, 277)))), some (.inl c), some (.inl (t2_pb (r_voltsOf_v f c C))), some (.inl (f 280 (444 + 61 * C + 16)))]) (st' := [.inr (.inr (.inl (76, 277)))]) (m' := (fl_row f 280 (upd (upd (f 280) (444 + 61 * C + 4) (r_chargeAt_v f c C (t2_pb (r_voltsOf_v f c C)))) (444 + 61 * C + 12) (r_restNow_j32_0 f c C)), l)) rfl rfl (fl_bo rfl) rfl ?_
  refine fl_Tq.stp (pc' := 83) (lv' := [some (.inr (.inr (.inl (76, 277)))), some (.inl c), some (.inl (t2_pb (r_voltsOf_v f c C))), some (.inl (f 280 (444 + 61 * C + 16)))]) (st' := [.inl c, .inr (.inr (.inl (76, 277)))]) (m' := (fl_row f 280 (upd (upd (f 280) (444 + 61 * C + 4) (r_chargeAt_v f c C (t2_pb (r_voltsOf_v f c C)))) (444 + 61 * C + 12) (r_restNow_j32_0 f c C)), l)) rfl rfl (fl_bo rfl) rfl ?_
  refine fl_Tq.cB (c := (16 : Int32)) rfl (by decide +kernel) (fl_bo rfl) ?_
  refine fl_Tq.stp (pc' := 86) (lv' := [some (.inr (.inr (.inl (76, 277)))), some (.inl c), some (.inl (t2_pb (r_voltsOf_v f c C))), some (.inl (f 280 (444 + 61 * C + 16)))]) (st' := [.inl (t2_pb (r_voltsOf_v f c C)), .inl (16 : Int32), .inl c, .inr (.inr (.inl (76, 277)))]) (m' := (fl_row f 280 (upd (upd (f 280) (444 + 61 * C + 4) (r_chargeAt_v f c C (t2_pb (r_voltsOf_v f c C)))) (444 + 61 * C + 12) (r_restNow_j32_0 f c C)), l)) rfl rfl (fl_bo rfl) rfl ?_
  refine fl_Tq.cal rfl rfl (fl_bo rfl) rfl ?_
  refine t2_let (C := C) (W := 16) (m' := (fl_row f 280 (upd (upd (upd (f 280) (444 + 61 * C + 4) (r_chargeAt_v f c C (t2_pb (r_voltsOf_v f c C)))) (444 + 61 * C + 12) (r_restNow_j32_0 f c C)) (444 + 61 * C + 16) (t2_pb (r_voltsOf_v f c C))), l)) hc (by decide +kernel) hC (by decide) (t2_upr) ?_
  show fl_Tq _ 224 89 [some (.inr (.inr (.inl (76, 277)))), some (.inl c), some (.inl (t2_pb (r_voltsOf_v f c C))), some (.inl (f 280 (444 + 61 * C + 16)))] [] (fl_row f 280 (upd (upd (upd (f 280) (444 + 61 * C + 4) (r_chargeAt_v f c C (t2_pb (r_voltsOf_v f c C)))) (444 + 61 * C + 12) (r_restNow_j32_0 f c C)) (444 + 61 * C + 16) (t2_pb (r_voltsOf_v f c C))), l) _
  refine fl_Tq.stp (pc' := 90) (lv' := [some (.inr (.inr (.inl (76, 277)))), some (.inl c), some (.inl (t2_pb (r_voltsOf_v f c C))), some (.inl (f 280 (444 + 61 * C + 16)))]) (st' := [.inr (.inr (.inl (76, 277)))]) (m' := (fl_row f 280 (upd (upd (upd (f 280) (444 + 61 * C + 4) (r_chargeAt_v f c C (t2_pb (r_voltsOf_v f c C)))) (444 + 61 * C + 12) (r_restNow_j32_0 f c C)) (444 + 61 * C + 16) (t2_pb (r_voltsOf_v f c C))), l)) rfl rfl (fl_bo rfl) rfl ?_
  refine fl_Tq.stp (pc' := 91) (lv' := [some (.inr (.inr (.inl (76, 277)))), some (.inl c), some (.inl (t2_pb (r_voltsOf_v f c C))), some (.inl (f 280 (444 + 61 * C + 16)))]) (st' := [.inl c, .inr (.inr (.inl (76, 277)))]) (m' := (fl_row f 280 (upd (upd (upd (f 280) (444 + 61 * C + 4) (r_chargeAt_v f c C (t2_pb (r_voltsOf_v f c C)))) (444 + 61 * C + 12) (r_restNow_j32_0 f c C)) (444 + 61 * C + 16) (t2_pb (r_voltsOf_v f c C))), l)) rfl rfl (fl_bo rfl) rfl ?_
  refine fl_Tq.cB (c := (13 : Int32)) rfl (by decide +kernel) (fl_bo rfl) ?_
  refine fl_Tq.cI (c := (0 : Int32)) rfl (by decide +kernel) (fl_bo rfl) ?_
  refine fl_Tq.cal rfl rfl (fl_bo rfl) rfl ?_
  refine t2_let (C := C) (W := 13) (m' := (fl_row f 280 (upd (upd (upd (upd (f 280) (444 + 61 * C + 4) (r_chargeAt_v f c C (t2_pb (r_voltsOf_v f c C)))) (444 + 61 * C + 12) (r_restNow_j32_0 f c C)) (444 + 61 * C + 16) (t2_pb (r_voltsOf_v f c C))) (444 + 61 * C + 13) (0 : Int32)), l)) hc (by decide +kernel) hC (by decide) (t2_upr) ?_
  show fl_Tq _ 224 97 [some (.inr (.inr (.inl (76, 277)))), some (.inl c), some (.inl (t2_pb (r_voltsOf_v f c C))), some (.inl (f 280 (444 + 61 * C + 16)))] [] (fl_row f 280 (upd (upd (upd (upd (f 280) (444 + 61 * C + 4) (r_chargeAt_v f c C (t2_pb (r_voltsOf_v f c C)))) (444 + 61 * C + 12) (r_restNow_j32_0 f c C)) (444 + 61 * C + 16) (t2_pb (r_voltsOf_v f c C))) (444 + 61 * C + 13) (0 : Int32)), l) _
  exact fl_Tq.ret rfl rfl rfl k
noncomputable def r_goMeasure_b17_j41_0 (f : t2_F) (z : Int32) (k : Nat) : Int32 := if (f 280 (444 + 61 * k + 15)).toInt = (1 : Int32).toInt then (if (r_size_v z).toInt < (1000 : Int32).toInt then f 280 (444 + 61 * k + 11) else (((r_voltsOf_v f (Int32.ofNat k) k) - (f 280 (444 + 61 * k + 14))) * (1000 : Int32)) / z) else f 280 (444 + 61 * k + 11)
noncomputable def r_goMeasure_b17_m (f : t2_F) (z : Int32) (k : Nat) : t2_F := fl_row f 280 (upd (upd (upd (upd (f 280) (444 + 61 * k + 11) (r_goMeasure_b17_j41_0 f z k)) (444 + 61 * k + 14) (r_voltsOf_v f (Int32.ofNat k) k)) (444 + 61 * k + 15) (1 : Int32)) (444 + 61 * k + 13) ((f 280 (444 + 61 * k + 13)) + (f 280 5)))
theorem r_goMeasure_b17_fr {f : t2_F} {z : Int32} {k : Nat} {p : Nat}  (e280 : p ≠ 280) : r_goMeasure_b17_m f z k p = f p := by
  unfold r_goMeasure_b17_m
  repeat' split
  all_goals first | rfl | simp only [fl_row_ne e280]
theorem r_goMeasure_b17_w {f : t2_F} {z : Int32} {k : Nat} {w : Nat} (e0 : w ≠ 444 + 61 * k + 11) (e1 : w ≠ 444 + 61 * k + 14) (e2 : w ≠ 444 + 61 * k + 15) (e3 : w ≠ 444 + 61 * k + 13) : r_goMeasure_b17_m f z k 280 w = f 280 w := by
  unfold r_goMeasure_b17_m
  repeat' split
  all_goals first | rfl | simp only [fl_row_self, upd_ne e0, upd_ne e1, upd_ne e2, upd_ne e3]
theorem r_goMeasure_b17_q {L : Nat} {xs : Nat → Int32} {f : t2_F} {l : t2_L} {Q : Option fl_V → fl_M → Prop} {z : Int32} {k : Nat} {n : Nat} (hkn : k < n) (hb : (f 280 2).toInt = (n : Int)) (h16 : n ≤ 16) (hr : t2_RS f) (hkk : t2_ck f k) (hS : fl_Tq (pw_P L xs) 225 17 [some (.inr (.inr (.inl (76, 277)))), some (.inl z), some (.inl (Int32.ofNat (k + 1))), none] [] (r_goMeasure_b17_m f z k, l) Q) : fl_Tq (pw_P L xs) 225 17 [some (.inr (.inr (.inl (76, 277)))), some (.inl z), some (.inl (Int32.ofNat k)), none] [] (f, l) Q := by
  refine fl_Tq.stp (pc' := 18) (lv' := [some (.inr (.inr (.inl (76, 277)))), some (.inl z), some (.inl (Int32.ofNat k)), none]) (st' := [.inl (Int32.ofNat k)]) (m' := (f, l)) rfl rfl (fl_bo rfl) rfl ?_
  refine fl_Tq.stp (pc' := 19) (lv' := [some (.inr (.inr (.inl (76, 277)))), some (.inl z), some (.inl (Int32.ofNat k)), none]) (st' := [.inr (.inr (.inl (76, 277))), .inl (Int32.ofNat k)]) (m' := (f, l)) rfl rfl (fl_bo rfl) rfl ?_
  refine fl_Tq.stp (pc' := 22) (lv' := [some (.inr (.inr (.inl (76, 277)))), some (.inl z), some (.inl (Int32.ofNat k)), none]) (st' := [.inr (.inr (.inl (79, 280))), .inl (Int32.ofNat k)]) (m' := (f, l)) rfl rfl (fl_bo rfl) rfl ?_
  refine fl_Tq.cI (c := (2 : Int32)) rfl (by decide +kernel) (fl_bo rfl) ?_
  refine fl_Tq.ldV (p := 280) (τ := 79) (n := 29780) (z := (0, 0, 0)) (k := 2) (v := f 280 2) rfl (fl_bo rfl) rfl (by decide +kernel) (by decide) rfl ?_
  refine fl_Tq.jf rfl (fl_bo rfl) (c2_ge_f (t2_lk hkn hb)) rfl ?_
  refine fl_Tq.stp (pc' := 28) (lv' := [some (.inr (.inr (.inl (76, 277)))), some (.inl z), some (.inl (Int32.ofNat k)), none]) (st' := [.inr (.inr (.inl (76, 277)))]) (m' := (f, l)) rfl rfl (fl_bo rfl) rfl ?_
  refine fl_Tq.stp (pc' := 29) (lv' := [some (.inr (.inr (.inl (76, 277)))), some (.inl z), some (.inl (Int32.ofNat k)), none]) (st' := [.inl (Int32.ofNat k), .inr (.inr (.inl (76, 277)))]) (m' := (f, l)) rfl rfl (fl_bo rfl) rfl ?_
  refine fl_Tq.cal rfl rfl (fl_bo rfl) rfl ?_
  refine r_voltsOf_q (at_ofN (by omega)) (by omega) hr hkk ?_
  show fl_Tq _ 225 32 [some (.inr (.inr (.inl (76, 277)))), some (.inl z), some (.inl (Int32.ofNat k)), none] [.inl (r_voltsOf_v f (Int32.ofNat k) k)] (f, l) _
  refine fl_Tq.stp (pc' := 33) (lv' := [some (.inr (.inr (.inl (76, 277)))), some (.inl z), some (.inl (Int32.ofNat k)), some (.inl (r_voltsOf_v f (Int32.ofNat k) k))]) (st' := []) (m' := (f, l)) rfl rfl (fl_bo rfl) rfl ?_
  refine fl_Tq.stp (pc' := 34) (lv' := [some (.inr (.inr (.inl (76, 277)))), some (.inl z), some (.inl (Int32.ofNat k)), some (.inl (r_voltsOf_v f (Int32.ofNat k) k))]) (st' := [.inr (.inr (.inl (76, 277)))]) (m' := (f, l)) rfl rfl (fl_bo rfl) rfl ?_
  refine fl_Tq.stp (pc' := 35) (lv' := [some (.inr (.inr (.inl (76, 277)))), some (.inl z), some (.inl (Int32.ofNat k)), some (.inl (r_voltsOf_v f (Int32.ofNat k) k))]) (st' := [.inl (Int32.ofNat k), .inr (.inr (.inl (76, 277)))]) (m' := (f, l)) rfl rfl (fl_bo rfl) rfl ?_
  refine fl_Tq.cB (c := (15 : Int32)) rfl (by decide +kernel) (fl_bo rfl) ?_
  refine fl_Tq.cal rfl rfl (fl_bo rfl) rfl ?_
  refine t2_get (C := k) (W := 15) (v := f 280 (444 + 61 * k + 15)) (at_ofN (by omega)) (by decide +kernel) (by omega) (by decide) rfl ?_
  show fl_Tq _ 225 40 [some (.inr (.inr (.inl (76, 277)))), some (.inl z), some (.inl (Int32.ofNat k)), some (.inl (r_voltsOf_v f (Int32.ofNat k) k))] [.inl (f 280 (444 + 61 * k + 15))] (f, l) _
  refine fl_Tq.cI (c := (1 : Int32)) rfl (by decide +kernel) (fl_bo rfl) ?_
  have hj125 : fl_Tq (pw_P L xs) 225 76 [some (.inr (.inr (.inl (76, 277)))), some (.inl z), some (.inl (Int32.ofNat k)), some (.inl (r_voltsOf_v f (Int32.ofNat k) k))] [] (fl_row f 280 (upd (f 280) (444 + 61 * k + 11) (r_goMeasure_b17_j41_0 f z k)), l) Q → fl_Tq (pw_P L xs) 225 41 [some (.inr (.inr (.inl (76, 277)))), some (.inl z), some (.inl (Int32.ofNat k)), some (.inl (r_voltsOf_v f (Int32.ofNat k) k))] [.inl (1 : Int32), .inl (f 280 (444 + 61 * k + 15))] (f, l) Q := by
    intro hJ
    by_cases h1 : (f 280 (444 + 61 * k + 15)).toInt = (1 : Int32).toInt
    · refine fl_Tq.jf rfl (fl_bo rfl) (c2_ne_f h1) rfl ?_
      refine fl_Tq.stp (pc' := 45) (lv' := [some (.inr (.inr (.inl (76, 277)))), some (.inl z), some (.inl (Int32.ofNat k)), some (.inl (r_voltsOf_v f (Int32.ofNat k) k))]) (st' := [.inl z]) (m' := (f, l)) rfl rfl (fl_bo rfl) rfl ?_
      refine fl_Tq.cal rfl rfl (fl_bo rfl) rfl ?_
      refine r_size_q  ?_
      show fl_Tq _ 225 48 [some (.inr (.inr (.inl (76, 277)))), some (.inl z), some (.inl (Int32.ofNat k)), some (.inl (r_voltsOf_v f (Int32.ofNat k) k))] [.inl (r_size_v z)] (f, l) _
      refine fl_Tq.cS (c := (1000 : Int32)) rfl (by decide +kernel) (fl_bo rfl) ?_
      by_cases h2 : (r_size_v z).toInt < (1000 : Int32).toInt
      · refine fl_Tq.jt rfl (fl_bo rfl) (c2_lt_t h2) rfl ?_
        have e0 : (fl_row f 280 (upd (f 280) (444 + 61 * k + 11) (r_goMeasure_b17_j41_0 f z k))) = f := by
          simp only [r_goMeasure_b17_j41_0, if_pos h1, if_pos h2]
          funext q j
          simp only [fl_row, upd]
          repeat' split
          all_goals first | rfl | simp_all
        rw [e0] at hJ
        exact hJ
      · refine fl_Tq.jf rfl (fl_bo rfl) (c2_lt_f h2) rfl ?_
        refine fl_Tq.stp (pc' := 55) (lv' := [some (.inr (.inr (.inl (76, 277)))), some (.inl z), some (.inl (Int32.ofNat k)), some (.inl (r_voltsOf_v f (Int32.ofNat k) k))]) (st' := [.inr (.inr (.inl (76, 277)))]) (m' := (f, l)) rfl rfl (fl_bo rfl) rfl ?_
        refine fl_Tq.stp (pc' := 56) (lv' := [some (.inr (.inr (.inl (76, 277)))), some (.inl z), some (.inl (Int32.ofNat k)), some (.inl (r_voltsOf_v f (Int32.ofNat k) k))]) (st' := [.inl (Int32.ofNat k), .inr (.inr (.inl (76, 277)))]) (m' := (f, l)) rfl rfl (fl_bo rfl) rfl ?_
        refine fl_Tq.cB (c := (11 : Int32)) rfl (by decide +kernel) (fl_bo rfl) ?_
        refine fl_Tq.stp (pc' := 59) (lv' := [some (.inr (.inr (.inl (76, 277)))), some (.inl z), some (.inl (Int32.ofNat k)), some (.inl (r_voltsOf_v f (Int32.ofNat k) k))]) (st' := [.inl (r_voltsOf_v f (Int32.ofNat k) k), .inl (11 : Int32), .inl (Int32.ofNat k), .inr (.inr (.inl (76, 277)))]) (m' := (f, l)) rfl rfl (fl_bo rfl) rfl ?_
        refine fl_Tq.stp (pc' := 60) (lv' := [some (.inr (.inr (.inl (76, 277)))), some (.inl z), some (.inl (Int32.ofNat k)), some (.inl (r_voltsOf_v f (Int32.ofNat k) k))]) (st' := [.inr (.inr (.inl (76, 277))), .inl (r_voltsOf_v f (Int32.ofNat k) k), .inl (11 : Int32), .inl (Int32.ofNat k), .inr (.inr (.inl (76, 277)))]) (m' := (f, l)) rfl rfl (fl_bo rfl) rfl ?_
        refine fl_Tq.stp (pc' := 61) (lv' := [some (.inr (.inr (.inl (76, 277)))), some (.inl z), some (.inl (Int32.ofNat k)), some (.inl (r_voltsOf_v f (Int32.ofNat k) k))]) (st' := [.inl (Int32.ofNat k), .inr (.inr (.inl (76, 277))), .inl (r_voltsOf_v f (Int32.ofNat k) k), .inl (11 : Int32), .inl (Int32.ofNat k), .inr (.inr (.inl (76, 277)))]) (m' := (f, l)) rfl rfl (fl_bo rfl) rfl ?_
        refine fl_Tq.cB (c := (14 : Int32)) rfl (by decide +kernel) (fl_bo rfl) ?_
        refine fl_Tq.cal rfl rfl (fl_bo rfl) rfl ?_
        refine t2_get (C := k) (W := 14) (v := f 280 (444 + 61 * k + 14)) (at_ofN (by omega)) (by decide +kernel) (by omega) (by decide) rfl ?_
        show fl_Tq _ 225 66 [some (.inr (.inr (.inl (76, 277)))), some (.inl z), some (.inl (Int32.ofNat k)), some (.inl (r_voltsOf_v f (Int32.ofNat k) k))] [.inl (f 280 (444 + 61 * k + 14)), .inl (r_voltsOf_v f (Int32.ofNat k) k), .inl (11 : Int32), .inl (Int32.ofNat k), .inr (.inr (.inl (76, 277)))] (f, l) _
        refine fl_Tq.stp (pc' := 67) (lv' := [some (.inr (.inr (.inl (76, 277)))), some (.inl z), some (.inl (Int32.ofNat k)), some (.inl (r_voltsOf_v f (Int32.ofNat k) k))]) (st' := [.inl ((r_voltsOf_v f (Int32.ofNat k) k) - (f 280 (444 + 61 * k + 14))), .inl (11 : Int32), .inl (Int32.ofNat k), .inr (.inr (.inl (76, 277)))]) (m' := (f, l)) rfl rfl (fl_bo rfl) rfl ?_
        refine fl_Tq.cS (c := (1000 : Int32)) rfl (by decide +kernel) (fl_bo rfl) ?_
        refine fl_Tq.stp (pc' := 71) (lv' := [some (.inr (.inr (.inl (76, 277)))), some (.inl z), some (.inl (Int32.ofNat k)), some (.inl (r_voltsOf_v f (Int32.ofNat k) k))]) (st' := [.inl (((r_voltsOf_v f (Int32.ofNat k) k) - (f 280 (444 + 61 * k + 14))) * (1000 : Int32)), .inl (11 : Int32), .inl (Int32.ofNat k), .inr (.inr (.inl (76, 277)))]) (m' := (f, l)) rfl rfl (fl_bo rfl) rfl ?_
        refine fl_Tq.stp (pc' := 72) (lv' := [some (.inr (.inr (.inl (76, 277)))), some (.inl z), some (.inl (Int32.ofNat k)), some (.inl (r_voltsOf_v f (Int32.ofNat k) k))]) (st' := [.inl z, .inl (((r_voltsOf_v f (Int32.ofNat k) k) - (f 280 (444 + 61 * k + 14))) * (1000 : Int32)), .inl (11 : Int32), .inl (Int32.ofNat k), .inr (.inr (.inl (76, 277)))]) (m' := (f, l)) rfl rfl (fl_bo rfl) rfl ?_
        refine fl_Tq.dv rfl (fl_bo rfl) (r_size_nz h2) ?_
        refine fl_Tq.cal rfl rfl (fl_bo rfl) rfl ?_
        refine t2_let (C := k) (W := 11) (m' := (fl_row f 280 (upd (f 280) (444 + 61 * k + 11) ((((r_voltsOf_v f (Int32.ofNat k) k) - (f 280 (444 + 61 * k + 14))) * (1000 : Int32)) / z)), l)) (at_ofN (by omega)) (by decide +kernel) (by omega) (by decide) (t2_upn rfl) ?_
        show fl_Tq _ 225 76 [some (.inr (.inr (.inl (76, 277)))), some (.inl z), some (.inl (Int32.ofNat k)), some (.inl (r_voltsOf_v f (Int32.ofNat k) k))] [] (fl_row f 280 (upd (f 280) (444 + 61 * k + 11) ((((r_voltsOf_v f (Int32.ofNat k) k) - (f 280 (444 + 61 * k + 14))) * (1000 : Int32)) / z)), l) _
        have e0 : (fl_row f 280 (upd (f 280) (444 + 61 * k + 11) (r_goMeasure_b17_j41_0 f z k))) = fl_row f 280 (upd (f 280) (444 + 61 * k + 11) ((((r_voltsOf_v f (Int32.ofNat k) k) - (f 280 (444 + 61 * k + 14))) * (1000 : Int32)) / z)) := by
          simp only [r_goMeasure_b17_j41_0, if_pos h1, if_neg h2]
        rw [e0] at hJ
        exact hJ
    · refine fl_Tq.jt rfl (fl_bo rfl) (c2_ne_t h1) rfl ?_
      have e0 : (fl_row f 280 (upd (f 280) (444 + 61 * k + 11) (r_goMeasure_b17_j41_0 f z k))) = f := by
        simp only [r_goMeasure_b17_j41_0, if_neg h1]
        funext q j
        simp only [fl_row, upd]
        repeat' split
        all_goals first | rfl | simp_all
      rw [e0] at hJ
      exact hJ
  refine hj125 ?_
  show fl_Tq _ 225 76 [some (.inr (.inr (.inl (76, 277)))), some (.inl z), some (.inl (Int32.ofNat k)), some (.inl (r_voltsOf_v f (Int32.ofNat k) k))] [] (fl_row f 280 (upd (f 280) (444 + 61 * k + 11) (r_goMeasure_b17_j41_0 f z k)), l) _
  refine fl_Tq.stp (pc' := 77) (lv' := [some (.inr (.inr (.inl (76, 277)))), some (.inl z), some (.inl (Int32.ofNat k)), some (.inl (r_voltsOf_v f (Int32.ofNat k) k))]) (st' := [.inr (.inr (.inl (76, 277)))]) (m' := (fl_row f 280 (upd (f 280) (444 + 61 * k + 11) (r_goMeasure_b17_j41_0 f z k)), l)) rfl rfl (fl_bo rfl) rfl ?_
  refine fl_Tq.stp (pc' := 78) (lv' := [some (.inr (.inr (.inl (76, 277)))), some (.inl z), some (.inl (Int32.ofNat k)), some (.inl (r_voltsOf_v f (Int32.ofNat k) k))]) (st' := [.inl (Int32.ofNat k), .inr (.inr (.inl (76, 277)))]) (m' := (fl_row f 280 (upd (f 280) (444 + 61 * k + 11) (r_goMeasure_b17_j41_0 f z k)), l)) rfl rfl (fl_bo rfl) rfl ?_
  refine fl_Tq.cB (c := (14 : Int32)) rfl (by decide +kernel) (fl_bo rfl) ?_
  refine fl_Tq.stp (pc' := 81) (lv' := [some (.inr (.inr (.inl (76, 277)))), some (.inl z), some (.inl (Int32.ofNat k)), some (.inl (r_voltsOf_v f (Int32.ofNat k) k))]) (st' := [.inl (r_voltsOf_v f (Int32.ofNat k) k), .inl (14 : Int32), .inl (Int32.ofNat k), .inr (.inr (.inl (76, 277)))]) (m' := (fl_row f 280 (upd (f 280) (444 + 61 * k + 11) (r_goMeasure_b17_j41_0 f z k)), l)) rfl rfl (fl_bo rfl) rfl ?_
  refine fl_Tq.cal rfl rfl (fl_bo rfl) rfl ?_
  refine t2_let (C := k) (W := 14) (m' := (fl_row f 280 (upd (upd (f 280) (444 + 61 * k + 11) (r_goMeasure_b17_j41_0 f z k)) (444 + 61 * k + 14) (r_voltsOf_v f (Int32.ofNat k) k)), l)) (at_ofN (by omega)) (by decide +kernel) (by omega) (by decide) (t2_upr) ?_
  show fl_Tq _ 225 84 [some (.inr (.inr (.inl (76, 277)))), some (.inl z), some (.inl (Int32.ofNat k)), some (.inl (r_voltsOf_v f (Int32.ofNat k) k))] [] (fl_row f 280 (upd (upd (f 280) (444 + 61 * k + 11) (r_goMeasure_b17_j41_0 f z k)) (444 + 61 * k + 14) (r_voltsOf_v f (Int32.ofNat k) k)), l) _
  refine fl_Tq.stp (pc' := 85) (lv' := [some (.inr (.inr (.inl (76, 277)))), some (.inl z), some (.inl (Int32.ofNat k)), some (.inl (r_voltsOf_v f (Int32.ofNat k) k))]) (st' := [.inr (.inr (.inl (76, 277)))]) (m' := (fl_row f 280 (upd (upd (f 280) (444 + 61 * k + 11) (r_goMeasure_b17_j41_0 f z k)) (444 + 61 * k + 14) (r_voltsOf_v f (Int32.ofNat k) k)), l)) rfl rfl (fl_bo rfl) rfl ?_
  refine fl_Tq.stp (pc' := 86) (lv' := [some (.inr (.inr (.inl (76, 277)))), some (.inl z), some (.inl (Int32.ofNat k)), some (.inl (r_voltsOf_v f (Int32.ofNat k) k))]) (st' := [.inl (Int32.ofNat k), .inr (.inr (.inl (76, 277)))]) (m' := (fl_row f 280 (upd (upd (f 280) (444 + 61 * k + 11) (r_goMeasure_b17_j41_0 f z k)) (444 + 61 * k + 14) (r_voltsOf_v f (Int32.ofNat k) k)), l)) rfl rfl (fl_bo rfl) rfl ?_
  refine fl_Tq.cB (c := (15 : Int32)) rfl (by decide +kernel) (fl_bo rfl) ?_
  refine fl_Tq.cI (c := (1 : Int32)) rfl (by decide +kernel) (fl_bo rfl) ?_
  refine fl_Tq.cal rfl rfl (fl_bo rfl) rfl ?_
  refine t2_let (C := k) (W := 15) (m' := (fl_row f 280 (upd (upd (upd (f 280) (444 + 61 * k + 11) (r_goMeasure_b17_j41_0 f z k)) (444 + 61 * k + 14) (r_voltsOf_v f (Int32.ofNat k) k)) (444 + 61 * k + 15) (1 : Int32)), l)) (at_ofN (by omega)) (by decide +kernel) (by omega) (by decide) (t2_upr) ?_
  show fl_Tq _ 225 92 [some (.inr (.inr (.inl (76, 277)))), some (.inl z), some (.inl (Int32.ofNat k)), some (.inl (r_voltsOf_v f (Int32.ofNat k) k))] [] (fl_row f 280 (upd (upd (upd (f 280) (444 + 61 * k + 11) (r_goMeasure_b17_j41_0 f z k)) (444 + 61 * k + 14) (r_voltsOf_v f (Int32.ofNat k) k)) (444 + 61 * k + 15) (1 : Int32)), l) _
  refine fl_Tq.stp (pc' := 93) (lv' := [some (.inr (.inr (.inl (76, 277)))), some (.inl z), some (.inl (Int32.ofNat k)), some (.inl (r_voltsOf_v f (Int32.ofNat k) k))]) (st' := [.inr (.inr (.inl (76, 277)))]) (m' := (fl_row f 280 (upd (upd (upd (f 280) (444 + 61 * k + 11) (r_goMeasure_b17_j41_0 f z k)) (444 + 61 * k + 14) (r_voltsOf_v f (Int32.ofNat k) k)) (444 + 61 * k + 15) (1 : Int32)), l)) rfl rfl (fl_bo rfl) rfl ?_
  refine fl_Tq.stp (pc' := 94) (lv' := [some (.inr (.inr (.inl (76, 277)))), some (.inl z), some (.inl (Int32.ofNat k)), some (.inl (r_voltsOf_v f (Int32.ofNat k) k))]) (st' := [.inl (Int32.ofNat k), .inr (.inr (.inl (76, 277)))]) (m' := (fl_row f 280 (upd (upd (upd (f 280) (444 + 61 * k + 11) (r_goMeasure_b17_j41_0 f z k)) (444 + 61 * k + 14) (r_voltsOf_v f (Int32.ofNat k) k)) (444 + 61 * k + 15) (1 : Int32)), l)) rfl rfl (fl_bo rfl) rfl ?_
  refine fl_Tq.cB (c := (13 : Int32)) rfl (by decide +kernel) (fl_bo rfl) ?_
  refine fl_Tq.stp (pc' := 97) (lv' := [some (.inr (.inr (.inl (76, 277)))), some (.inl z), some (.inl (Int32.ofNat k)), some (.inl (r_voltsOf_v f (Int32.ofNat k) k))]) (st' := [.inr (.inr (.inl (76, 277))), .inl (13 : Int32), .inl (Int32.ofNat k), .inr (.inr (.inl (76, 277)))]) (m' := (fl_row f 280 (upd (upd (upd (f 280) (444 + 61 * k + 11) (r_goMeasure_b17_j41_0 f z k)) (444 + 61 * k + 14) (r_voltsOf_v f (Int32.ofNat k) k)) (444 + 61 * k + 15) (1 : Int32)), l)) rfl rfl (fl_bo rfl) rfl ?_
  refine fl_Tq.stp (pc' := 98) (lv' := [some (.inr (.inr (.inl (76, 277)))), some (.inl z), some (.inl (Int32.ofNat k)), some (.inl (r_voltsOf_v f (Int32.ofNat k) k))]) (st' := [.inl (Int32.ofNat k), .inr (.inr (.inl (76, 277))), .inl (13 : Int32), .inl (Int32.ofNat k), .inr (.inr (.inl (76, 277)))]) (m' := (fl_row f 280 (upd (upd (upd (f 280) (444 + 61 * k + 11) (r_goMeasure_b17_j41_0 f z k)) (444 + 61 * k + 14) (r_voltsOf_v f (Int32.ofNat k) k)) (444 + 61 * k + 15) (1 : Int32)), l)) rfl rfl (fl_bo rfl) rfl ?_
  refine fl_Tq.cB (c := (13 : Int32)) rfl (by decide +kernel) (fl_bo rfl) ?_
  refine fl_Tq.cal rfl rfl (fl_bo rfl) rfl ?_
  refine t2_get (C := k) (W := 13) (v := f 280 (444 + 61 * k + 13)) (at_ofN (by omega)) (by decide +kernel) (by omega) (by decide) (by simp only [fl_row_self, upd_ne (by omega : 444 + 61 * k + 13 ≠ 444 + 61 * k + 15), upd_ne (by omega : 444 + 61 * k + 13 ≠ 444 + 61 * k + 14), upd_ne (by omega : 444 + 61 * k + 13 ≠ 444 + 61 * k + 11)]) ?_
  show fl_Tq _ 225 103 [some (.inr (.inr (.inl (76, 277)))), some (.inl z), some (.inl (Int32.ofNat k)), some (.inl (r_voltsOf_v f (Int32.ofNat k) k))] [.inl (f 280 (444 + 61 * k + 13)), .inl (13 : Int32), .inl (Int32.ofNat k), .inr (.inr (.inl (76, 277)))] (fl_row f 280 (upd (upd (upd (f 280) (444 + 61 * k + 11) (r_goMeasure_b17_j41_0 f z k)) (444 + 61 * k + 14) (r_voltsOf_v f (Int32.ofNat k) k)) (444 + 61 * k + 15) (1 : Int32)), l) _
  refine fl_Tq.stp (pc' := 104) (lv' := [some (.inr (.inr (.inl (76, 277)))), some (.inl z), some (.inl (Int32.ofNat k)), some (.inl (r_voltsOf_v f (Int32.ofNat k) k))]) (st' := [.inr (.inr (.inl (76, 277))), .inl (f 280 (444 + 61 * k + 13)), .inl (13 : Int32), .inl (Int32.ofNat k), .inr (.inr (.inl (76, 277)))]) (m' := (fl_row f 280 (upd (upd (upd (f 280) (444 + 61 * k + 11) (r_goMeasure_b17_j41_0 f z k)) (444 + 61 * k + 14) (r_voltsOf_v f (Int32.ofNat k) k)) (444 + 61 * k + 15) (1 : Int32)), l)) rfl rfl (fl_bo rfl) rfl ?_
  refine fl_Tq.stp (pc' := 107) (lv' := [some (.inr (.inr (.inl (76, 277)))), some (.inl z), some (.inl (Int32.ofNat k)), some (.inl (r_voltsOf_v f (Int32.ofNat k) k))]) (st' := [.inr (.inr (.inl (79, 280))), .inl (f 280 (444 + 61 * k + 13)), .inl (13 : Int32), .inl (Int32.ofNat k), .inr (.inr (.inl (76, 277)))]) (m' := (fl_row f 280 (upd (upd (upd (f 280) (444 + 61 * k + 11) (r_goMeasure_b17_j41_0 f z k)) (444 + 61 * k + 14) (r_voltsOf_v f (Int32.ofNat k) k)) (444 + 61 * k + 15) (1 : Int32)), l)) rfl rfl (fl_bo rfl) rfl ?_
  refine fl_Tq.cI (c := (5 : Int32)) rfl (by decide +kernel) (fl_bo rfl) ?_
  refine fl_Tq.ldV (p := 280) (τ := 79) (n := 29780) (z := (0, 0, 0)) (k := 5) (v := f 280 5) rfl (fl_bo rfl) rfl (by decide +kernel) (by decide) (by simp only [fl_row_self, upd_ne (by omega : 5 ≠ 444 + 61 * k + 15), upd_ne (by omega : 5 ≠ 444 + 61 * k + 14), upd_ne (by omega : 5 ≠ 444 + 61 * k + 11)]) ?_
  refine fl_Tq.stp (pc' := 110) (lv' := [some (.inr (.inr (.inl (76, 277)))), some (.inl z), some (.inl (Int32.ofNat k)), some (.inl (r_voltsOf_v f (Int32.ofNat k) k))]) (st' := [.inl ((f 280 (444 + 61 * k + 13)) + (f 280 5)), .inl (13 : Int32), .inl (Int32.ofNat k), .inr (.inr (.inl (76, 277)))]) (m' := (fl_row f 280 (upd (upd (upd (f 280) (444 + 61 * k + 11) (r_goMeasure_b17_j41_0 f z k)) (444 + 61 * k + 14) (r_voltsOf_v f (Int32.ofNat k) k)) (444 + 61 * k + 15) (1 : Int32)), l)) rfl rfl (fl_bo rfl) rfl ?_
  refine fl_Tq.cal rfl rfl (fl_bo rfl) rfl ?_
  refine t2_let (C := k) (W := 13) (m' := (fl_row f 280 (upd (upd (upd (upd (f 280) (444 + 61 * k + 11) (r_goMeasure_b17_j41_0 f z k)) (444 + 61 * k + 14) (r_voltsOf_v f (Int32.ofNat k) k)) (444 + 61 * k + 15) (1 : Int32)) (444 + 61 * k + 13) ((f 280 (444 + 61 * k + 13)) + (f 280 5))), l)) (at_ofN (by omega)) (by decide +kernel) (by omega) (by decide) (t2_upr) ?_
  show fl_Tq _ 225 113 [some (.inr (.inr (.inl (76, 277)))), some (.inl z), some (.inl (Int32.ofNat k)), some (.inl (r_voltsOf_v f (Int32.ofNat k) k))] [] (fl_row f 280 (upd (upd (upd (upd (f 280) (444 + 61 * k + 11) (r_goMeasure_b17_j41_0 f z k)) (444 + 61 * k + 14) (r_voltsOf_v f (Int32.ofNat k) k)) (444 + 61 * k + 15) (1 : Int32)) (444 + 61 * k + 13) ((f 280 (444 + 61 * k + 13)) + (f 280 5))), l) _
  refine fl_Tq.stp (pc' := 116) (lv' := [some (.inr (.inr (.inl (76, 277)))), some (.inl z), some (.inl ((Int32.ofNat k) + (1 : Int32))), some (.inl (r_voltsOf_v f (Int32.ofNat k) k))]) (st' := []) (m' := (fl_row f 280 (upd (upd (upd (upd (f 280) (444 + 61 * k + 11) (r_goMeasure_b17_j41_0 f z k)) (444 + 61 * k + 14) (r_voltsOf_v f (Int32.ofNat k) k)) (444 + 61 * k + 15) (1 : Int32)) (444 + 61 * k + 13) ((f 280 (444 + 61 * k + 13)) + (f 280 5))), l)) rfl rfl (fl_bo rfl) rfl ?_
  refine fl_Tq.stp (pc' := 17) (lv' := [some (.inr (.inr (.inl (76, 277)))), some (.inl z), some (.inl ((Int32.ofNat k) + (1 : Int32))), some (.inl (r_voltsOf_v f (Int32.ofNat k) k))]) (st' := []) (m' := (fl_row f 280 (upd (upd (upd (upd (f 280) (444 + 61 * k + 11) (r_goMeasure_b17_j41_0 f z k)) (444 + 61 * k + 14) (r_voltsOf_v f (Int32.ofNat k) k)) (444 + 61 * k + 15) (1 : Int32)) (444 + 61 * k + 13) ((f 280 (444 + 61 * k + 13)) + (f 280 5))), l)) rfl rfl (fl_bo rfl) rfl ?_
  have em : r_goMeasure_b17_m f z k = fl_row f 280 (upd (upd (upd (upd (f 280) (444 + 61 * k + 11) (r_goMeasure_b17_j41_0 f z k)) (444 + 61 * k + 14) (r_voltsOf_v f (Int32.ofNat k) k)) (444 + 61 * k + 15) (1 : Int32)) (444 + 61 * k + 13) ((f 280 (444 + 61 * k + 13)) + (f 280 5))) := rfl
  rw [em, ← t2_k1] at hS
  exact fl_Tq.fg hS ⟨rfl, rfl, rfl, True.intro⟩
noncomputable def r_goMeasure_f17 (f : t2_F)  : Nat → t2_F
  | 0 => f
  | k + 1 => r_goMeasure_b17_m (r_goMeasure_f17 f k) ((f 280 5) - (f 280 14)) k
theorem r_goMeasure_f17_fr {f : t2_F}  {p : Nat} : ∀ {k : Nat}  (e280 : p ≠ 280), r_goMeasure_f17 f k p = f p := by
  intro k
  induction k with
  | zero => intros; rfl
  | succ k ih =>
    intro  e280
    exact (r_goMeasure_b17_fr (z := (f 280 5) - (f 280 14)) (k := k)  e280).trans (ih  e280)
theorem r_goMeasure_f17_w {f : t2_F}  {w : Nat} : ∀ {k : Nat} (e0 : ∀ j : Nat, j < k → w ≠ 444 + 61 * j + 11) (e1 : ∀ j : Nat, j < k → w ≠ 444 + 61 * j + 14) (e2 : ∀ j : Nat, j < k → w ≠ 444 + 61 * j + 15) (e3 : ∀ j : Nat, j < k → w ≠ 444 + 61 * j + 13), r_goMeasure_f17 f k 280 w = f 280 w := by
  intro k
  induction k with
  | zero => intros; rfl
  | succ k ih =>
    intro e0 e1 e2 e3
    exact (r_goMeasure_b17_w (z := (f 280 5) - (f 280 14)) (k := k) (e0 k (by omega)) (e1 k (by omega)) (e2 k (by omega)) (e3 k (by omega))).trans (ih (fun j hj => e0 j (by omega)) (fun j hj => e1 j (by omega)) (fun j hj => e2 j (by omega)) (fun j hj => e3 j (by omega)))
noncomputable def r_goMeasure_j144_0 (f : t2_F)  : Int32 := if (f 280 5).toInt = 0 then (f 280 9) + (1 : Int32) else (0 : Int32)
noncomputable def r_goMeasure_b163_m (f : t2_F) (z : Int32) (k : Nat) : t2_F := r_restNow_m f (Int32.ofNat k) k
theorem r_goMeasure_b163_fr {f : t2_F} {z : Int32} {k : Nat} {p : Nat}  (e280 : p ≠ 280) : r_goMeasure_b163_m f z k p = f p := by
  unfold r_goMeasure_b163_m
  repeat' split
  all_goals first | rfl | simp only [fl_row_ne e280, r_restNow_fr e280]
theorem r_goMeasure_b163_w {f : t2_F} {z : Int32} {k : Nat} {w : Nat} (e0 : w ≠ 444 + 61 * k + 4) (e1 : w ≠ 444 + 61 * k + 12) (e2 : w ≠ 444 + 61 * k + 16) (e3 : w ≠ 444 + 61 * k + 13) : r_goMeasure_b163_m f z k 280 w = f 280 w := by
  unfold r_goMeasure_b163_m
  repeat' split
  all_goals first | rfl | simp only [fl_row_self, upd_ne e0, upd_ne e1, upd_ne e2, upd_ne e3, r_restNow_w e0 e1 e2 e3]
theorem r_goMeasure_b163_q {L : Nat} {xs : Nat → Int32} {f : t2_F} {l : t2_L} {Q : Option fl_V → fl_M → Prop} {z : Int32} {k : Nat} {n : Nat} (hkn : k < n) (hb : (f 280 2).toInt = (n : Int)) (h16 : n ≤ 16) (hr : t2_RS f) (hkk : t2_ck f k) (hww : -1 ≤ (f 280 (444 + 61 * k + 16)).toInt ∧ (f 280 (444 + 61 * k + 16)).toInt ≤ 1000) (h9 : (f 280 9).toInt = (f 280 53).toInt) (hS : fl_Tq (pw_P L xs) 225 163 [some (.inr (.inr (.inl (76, 277)))), some (.inl z), some (.inl (Int32.ofNat (k + 1))), none] [] (r_goMeasure_b163_m f z k, l) Q) : fl_Tq (pw_P L xs) 225 163 [some (.inr (.inr (.inl (76, 277)))), some (.inl z), some (.inl (Int32.ofNat k)), none] [] (f, l) Q := by
  refine fl_Tq.stp (pc' := 164) (lv' := [some (.inr (.inr (.inl (76, 277)))), some (.inl z), some (.inl (Int32.ofNat k)), none]) (st' := [.inl (Int32.ofNat k)]) (m' := (f, l)) rfl rfl (fl_bo rfl) rfl ?_
  refine fl_Tq.stp (pc' := 165) (lv' := [some (.inr (.inr (.inl (76, 277)))), some (.inl z), some (.inl (Int32.ofNat k)), none]) (st' := [.inr (.inr (.inl (76, 277))), .inl (Int32.ofNat k)]) (m' := (f, l)) rfl rfl (fl_bo rfl) rfl ?_
  refine fl_Tq.stp (pc' := 168) (lv' := [some (.inr (.inr (.inl (76, 277)))), some (.inl z), some (.inl (Int32.ofNat k)), none]) (st' := [.inr (.inr (.inl (79, 280))), .inl (Int32.ofNat k)]) (m' := (f, l)) rfl rfl (fl_bo rfl) rfl ?_
  refine fl_Tq.cI (c := (2 : Int32)) rfl (by decide +kernel) (fl_bo rfl) ?_
  refine fl_Tq.ldV (p := 280) (τ := 79) (n := 29780) (z := (0, 0, 0)) (k := 2) (v := f 280 2) rfl (fl_bo rfl) rfl (by decide +kernel) (by decide) rfl ?_
  refine fl_Tq.jf rfl (fl_bo rfl) (c2_ge_f (t2_lk hkn hb)) rfl ?_
  refine fl_Tq.stp (pc' := 174) (lv' := [some (.inr (.inr (.inl (76, 277)))), some (.inl z), some (.inl (Int32.ofNat k)), none]) (st' := [.inr (.inr (.inl (76, 277)))]) (m' := (f, l)) rfl rfl (fl_bo rfl) rfl ?_
  refine fl_Tq.stp (pc' := 177) (lv' := [some (.inr (.inr (.inl (76, 277)))), some (.inl z), some (.inl (Int32.ofNat k)), none]) (st' := [.inr (.inr (.inl (79, 280)))]) (m' := (f, l)) rfl rfl (fl_bo rfl) rfl ?_
  refine fl_Tq.cB (c := (9 : Int32)) rfl (by decide +kernel) (fl_bo rfl) ?_
  refine fl_Tq.ldV (p := 280) (τ := 79) (n := 29780) (z := (0, 0, 0)) (k := 9) (v := f 280 9) rfl (fl_bo rfl) rfl (by decide +kernel) (by decide) rfl ?_
  refine fl_Tq.stp (pc' := 181) (lv' := [some (.inr (.inr (.inl (76, 277)))), some (.inl z), some (.inl (Int32.ofNat k)), none]) (st' := [.inr (.inr (.inl (76, 277))), .inl (f 280 9)]) (m' := (f, l)) rfl rfl (fl_bo rfl) rfl ?_
  refine fl_Tq.cB (c := (19 : Int32)) rfl (by decide +kernel) (fl_bo rfl) ?_
  refine fl_Tq.cal rfl rfl (fl_bo rfl) rfl ?_
  refine t2_its (W := 19) (v := f 280 53) (by decide +kernel) (by decide) rfl ?_
  show fl_Tq _ 225 186 [some (.inr (.inr (.inl (76, 277)))), some (.inl z), some (.inl (Int32.ofNat k)), none] [.inl (f 280 53), .inl (f 280 9)] (f, l) _
  refine fl_Tq.jf rfl (fl_bo rfl) (c2_ne_f h9) rfl ?_
  refine fl_Tq.stp (pc' := 190) (lv' := [some (.inr (.inr (.inl (76, 277)))), some (.inl z), some (.inl (Int32.ofNat k)), none]) (st' := [.inr (.inr (.inl (76, 277)))]) (m' := (f, l)) rfl rfl (fl_bo rfl) rfl ?_
  refine fl_Tq.stp (pc' := 191) (lv' := [some (.inr (.inr (.inl (76, 277)))), some (.inl z), some (.inl (Int32.ofNat k)), none]) (st' := [.inl (Int32.ofNat k), .inr (.inr (.inl (76, 277)))]) (m' := (f, l)) rfl rfl (fl_bo rfl) rfl ?_
  refine fl_Tq.cal rfl rfl (fl_bo rfl) rfl ?_
  refine r_restNow_q (at_ofN (by omega)) (by omega) hr hkk hww ?_
  show fl_Tq _ 225 194 [some (.inr (.inr (.inl (76, 277)))), some (.inl z), some (.inl (Int32.ofNat k)), none] [] (r_restNow_m f (Int32.ofNat k) k, l) _
  refine fl_Tq.stp (pc' := 197) (lv' := [some (.inr (.inr (.inl (76, 277)))), some (.inl z), some (.inl ((Int32.ofNat k) + (1 : Int32))), none]) (st' := []) (m' := (r_restNow_m f (Int32.ofNat k) k, l)) rfl rfl (fl_bo rfl) rfl ?_
  refine fl_Tq.stp (pc' := 163) (lv' := [some (.inr (.inr (.inl (76, 277)))), some (.inl z), some (.inl ((Int32.ofNat k) + (1 : Int32))), none]) (st' := []) (m' := (r_restNow_m f (Int32.ofNat k) k, l)) rfl rfl (fl_bo rfl) rfl ?_
  have em : r_goMeasure_b163_m f z k = r_restNow_m f (Int32.ofNat k) k := rfl
  rw [em, ← t2_k1] at hS
  exact hS
noncomputable def r_goMeasure_f163 (f : t2_F)  : Nat → t2_F
  | 0 => fl_row (r_goMeasure_f17 f ((f 280 2).toInt.toNat)) 280 (upd (upd ((r_goMeasure_f17 f ((f 280 2).toInt.toNat)) 280) 14 (f 280 5)) 9 (r_goMeasure_j144_0 f))
  | k + 1 => r_goMeasure_b163_m (r_goMeasure_f163 f k) ((f 280 5) - (f 280 14)) k
theorem r_goMeasure_f163_fr {f : t2_F}  {p : Nat} : ∀ {k : Nat}  (e280 : p ≠ 280), r_goMeasure_f163 f k p = (fl_row (r_goMeasure_f17 f ((f 280 2).toInt.toNat)) 280 (upd (upd ((r_goMeasure_f17 f ((f 280 2).toInt.toNat)) 280) 14 (f 280 5)) 9 (r_goMeasure_j144_0 f))) p := by
  intro k
  induction k with
  | zero => intros; rfl
  | succ k ih =>
    intro  e280
    exact (r_goMeasure_b163_fr (z := (f 280 5) - (f 280 14)) (k := k)  e280).trans (ih  e280)
theorem r_goMeasure_f163_w {f : t2_F}  {w : Nat} : ∀ {k : Nat} (e0 : ∀ j : Nat, j < k → w ≠ 444 + 61 * j + 4) (e1 : ∀ j : Nat, j < k → w ≠ 444 + 61 * j + 12) (e2 : ∀ j : Nat, j < k → w ≠ 444 + 61 * j + 16) (e3 : ∀ j : Nat, j < k → w ≠ 444 + 61 * j + 13), r_goMeasure_f163 f k 280 w = (fl_row (r_goMeasure_f17 f ((f 280 2).toInt.toNat)) 280 (upd (upd ((r_goMeasure_f17 f ((f 280 2).toInt.toNat)) 280) 14 (f 280 5)) 9 (r_goMeasure_j144_0 f))) 280 w := by
  intro k
  induction k with
  | zero => intros; rfl
  | succ k ih =>
    intro e0 e1 e2 e3
    exact (r_goMeasure_b163_w (z := (f 280 5) - (f 280 14)) (k := k) (e0 k (by omega)) (e1 k (by omega)) (e2 k (by omega)) (e3 k (by omega))).trans (ih (fun j hj => e0 j (by omega)) (fun j hj => e1 j (by omega)) (fun j hj => e2 j (by omega)) (fun j hj => e3 j (by omega)))
noncomputable def r_goMeasure_j204_0 (f : t2_F)  : Int32 := if (r_isLive_v (r_goMeasure_f163 f ((f 280 2).toInt.toNat))).toInt = 0 then (r_goMeasure_f163 f ((f 280 2).toInt.toNat)) 280 4 else r_pack_v (r_goMeasure_f163 f ((f 280 2).toInt.toNat))
noncomputable def r_goMeasure_j204_1 (f : t2_F)  : Int32 := if (r_isLive_v (fl_row (r_goMeasure_f17 f ((f 280 2).toInt.toNat)) 280 (upd (upd ((r_goMeasure_f17 f ((f 280 2).toInt.toNat)) 280) 14 (f 280 5)) 9 (r_goMeasure_j144_0 f)))).toInt = 0 then (r_goMeasure_f17 f ((f 280 2).toInt.toNat)) 280 4 else r_pack_v (fl_row (r_goMeasure_f17 f ((f 280 2).toInt.toNat)) 280 (upd (upd ((r_goMeasure_f17 f ((f 280 2).toInt.toNat)) 280) 14 (f 280 5)) 9 (r_goMeasure_j144_0 f)))
noncomputable def r_goMeasure_m (f : t2_F) : t2_F := if (r_goMeasure_j144_0 f).toInt = (f 280 53).toInt then fl_row (r_goMeasure_f163 f ((f 280 2).toInt.toNat)) 280 (upd ((r_goMeasure_f163 f ((f 280 2).toInt.toNat)) 280) 4 (r_goMeasure_j204_0 f)) else fl_row (r_goMeasure_f17 f ((f 280 2).toInt.toNat)) 280 (upd (upd (upd ((r_goMeasure_f17 f ((f 280 2).toInt.toNat)) 280) 14 (f 280 5)) 9 (r_goMeasure_j144_0 f)) 4 (r_goMeasure_j204_1 f))
theorem r_goMeasure_fr {f : t2_F}  {p : Nat}  (e280 : p ≠ 280) : r_goMeasure_m f p = f p := by
  unfold r_goMeasure_m
  repeat' split
  all_goals first | rfl | simp only [fl_row_ne e280, r_goMeasure_f163_fr (k := (f 280 2).toInt.toNat) e280, r_goMeasure_f17_fr (k := (f 280 2).toInt.toNat) e280]
theorem r_goMeasure_w {f : t2_F}  {w : Nat} (e0 : w ≠ 4) (e1 : ∀ j : Nat, w ≠ 444 + 61 * j + 4) (e2 : ∀ j : Nat, w ≠ 444 + 61 * j + 12) (e3 : ∀ j : Nat, w ≠ 444 + 61 * j + 16) (e4 : ∀ j : Nat, w ≠ 444 + 61 * j + 13) (e5 : w ≠ 14) (e6 : w ≠ 9) (e7 : ∀ j : Nat, w ≠ 444 + 61 * j + 11) (e8 : ∀ j : Nat, w ≠ 444 + 61 * j + 14) (e9 : ∀ j : Nat, w ≠ 444 + 61 * j + 15) : r_goMeasure_m f 280 w = f 280 w := by
  unfold r_goMeasure_m
  repeat' split
  all_goals first | rfl | simp only [fl_row_self, upd_ne e0, upd_ne e5, upd_ne e6, r_goMeasure_f163_w (k := (f 280 2).toInt.toNat) (fun j hj => e1 j) (fun j hj => e2 j) (fun j hj => e3 j) (fun j hj => e4 j), r_goMeasure_f17_w (k := (f 280 2).toInt.toNat) (fun j hj => e7 j) (fun j hj => e8 j) (fun j hj => e9 j) (fun j hj => e4 j)]
theorem r_goMeasure_q {L : Nat} {xs : Nat → Int32} {f : t2_F} {l : t2_L} {Q : Option fl_V → fl_M → Prop}  (hn : 0 ≤ (f 280 2).toInt ∧ (f 280 2).toInt ≤ 16) (hr : t2_RS f) (hk : ∀ C : Nat, (C : Int) < (f 280 2).toInt → t2_ck f C) (hw : ∀ C : Nat, (C : Int) < (f 280 2).toInt → -1 ≤ (f 280 (444 + 61 * C + 16)).toInt ∧ (f 280 (444 + 61 * C + 16)).toInt ≤ 1000) (k : Q none (r_goMeasure_m f, l)) : fl_Tq (pw_P L xs) 225 0 (fl_args (am_mxl (pw_P L xs) 225) [.inr (.inr (.inl (76, 277)))]) [] (f, l) Q := by
  refine fl_Tq.stp (pc' := 1) (lv' := [some (.inr (.inr (.inl (76, 277)))), none, none, none]) (st' := [.inr (.inr (.inl (76, 277)))]) (m' := (f, l)) rfl rfl (fl_bo rfl) rfl ?_
  refine fl_Tq.stp (pc' := 4) (lv' := [some (.inr (.inr (.inl (76, 277)))), none, none, none]) (st' := [.inr (.inr (.inl (79, 280)))]) (m' := (f, l)) rfl rfl (fl_bo rfl) rfl ?_
  refine fl_Tq.cI (c := (5 : Int32)) rfl (by decide +kernel) (fl_bo rfl) ?_
  refine fl_Tq.ldV (p := 280) (τ := 79) (n := 29780) (z := (0, 0, 0)) (k := 5) (v := f 280 5) rfl (fl_bo rfl) rfl (by decide +kernel) (by decide) rfl ?_
  refine fl_Tq.stp (pc' := 7) (lv' := [some (.inr (.inr (.inl (76, 277)))), none, none, none]) (st' := [.inr (.inr (.inl (76, 277))), .inl (f 280 5)]) (m' := (f, l)) rfl rfl (fl_bo rfl) rfl ?_
  refine fl_Tq.stp (pc' := 10) (lv' := [some (.inr (.inr (.inl (76, 277)))), none, none, none]) (st' := [.inr (.inr (.inl (79, 280))), .inl (f 280 5)]) (m' := (f, l)) rfl rfl (fl_bo rfl) rfl ?_
  refine fl_Tq.cB (c := (14 : Int32)) rfl (by decide +kernel) (fl_bo rfl) ?_
  refine fl_Tq.ldV (p := 280) (τ := 79) (n := 29780) (z := (0, 0, 0)) (k := 14) (v := f 280 14) rfl (fl_bo rfl) rfl (by decide +kernel) (by decide) rfl ?_
  refine fl_Tq.stp (pc' := 14) (lv' := [some (.inr (.inr (.inl (76, 277)))), none, none, none]) (st' := [.inl ((f 280 5) - (f 280 14))]) (m' := (f, l)) rfl rfl (fl_bo rfl) rfl ?_
  refine fl_Tq.stp (pc' := 15) (lv' := [some (.inr (.inr (.inl (76, 277)))), some (.inl ((f 280 5) - (f 280 14))), none, none]) (st' := []) (m' := (f, l)) rfl rfl (fl_bo rfl) rfl ?_
  refine fl_Tq.cI (c := (0 : Int32)) rfl (by decide +kernel) (fl_bo rfl) ?_
  refine fl_Tq.stp (pc' := 17) (lv' := [some (.inr (.inr (.inl (76, 277)))), some (.inl ((f 280 5) - (f 280 14))), some (.inl (0 : Int32)), none]) (st' := []) (m' := (f, l)) rfl rfl (fl_bo rfl) rfl ?_
  have hs17 : ∀ k : Nat, k < (f 280 2).toInt.toNat → fl_Tq (pw_P L xs) 225 17 [some (.inr (.inr (.inl (76, 277)))), some (.inl ((f 280 5) - (f 280 14))), some (.inl (Int32.ofNat (k + 1))), none] [] (r_goMeasure_f17 f (k + 1), l) Q → fl_Tq (pw_P L xs) 225 17 [some (.inr (.inr (.inl (76, 277)))), some (.inl ((f 280 5) - (f 280 14))), some (.inl (Int32.ofNat k)), none] [] (r_goMeasure_f17 f k, l) Q := fun k hkn hS => r_goMeasure_b17_q hkn (by simp only [r_goMeasure_f17_w (k := k) (w := 2) (fun j hj => by omega) (fun j hj => by omega) (fun j hj => by omega) (fun j hj => by omega)]; exact (t2_nn hn.1)) (by omega) (fun j => by simp only [r_goMeasure_f17_fr (k := k) (p := 279) (by decide : 279 ≠ 280)]; exact hr j) (by unfold t2_ck; simp only [r_goMeasure_f17_w (k := k) (w := 444 + 61 * k + 0) (fun j hj => by omega) (fun j hj => by omega) (fun j hj => by omega) (fun j hj => by omega), r_goMeasure_f17_w (k := k) (w := 444 + 61 * k + 1) (fun j hj => by omega) (fun j hj => by omega) (fun j hj => by omega) (fun j hj => by omega), r_goMeasure_f17_w (k := k) (w := 444 + 61 * k + 16) (fun j hj => by omega) (fun j hj => by omega) (fun j hj => by omega) (fun j hj => by omega)]; exact hk k (by omega)) hS
  refine t2_for (S := fun k => fl_Tq (pw_P L xs) 225 17 [some (.inr (.inr (.inl (76, 277)))), some (.inl ((f 280 5) - (f 280 14))), some (.inl (Int32.ofNat k)), none] [] (r_goMeasure_f17 f k, l) Q) hs17 ?_
  show fl_Tq (pw_P L xs) 225 17 [some (.inr (.inr (.inl (76, 277)))), some (.inl ((f 280 5) - (f 280 14))), some (.inl (Int32.ofNat ((f 280 2).toInt.toNat))), none] [] (r_goMeasure_f17 f ((f 280 2).toInt.toNat), l) _
  refine fl_Tq.stp (pc' := 18) (lv' := [some (.inr (.inr (.inl (76, 277)))), some (.inl ((f 280 5) - (f 280 14))), some (.inl (Int32.ofNat ((f 280 2).toInt.toNat))), none]) (st' := [.inl (Int32.ofNat ((f 280 2).toInt.toNat))]) (m' := (r_goMeasure_f17 f ((f 280 2).toInt.toNat), l)) rfl rfl (fl_bo rfl) rfl ?_
  refine fl_Tq.stp (pc' := 19) (lv' := [some (.inr (.inr (.inl (76, 277)))), some (.inl ((f 280 5) - (f 280 14))), some (.inl (Int32.ofNat ((f 280 2).toInt.toNat))), none]) (st' := [.inr (.inr (.inl (76, 277))), .inl (Int32.ofNat ((f 280 2).toInt.toNat))]) (m' := (r_goMeasure_f17 f ((f 280 2).toInt.toNat), l)) rfl rfl (fl_bo rfl) rfl ?_
  refine fl_Tq.stp (pc' := 22) (lv' := [some (.inr (.inr (.inl (76, 277)))), some (.inl ((f 280 5) - (f 280 14))), some (.inl (Int32.ofNat ((f 280 2).toInt.toNat))), none]) (st' := [.inr (.inr (.inl (79, 280))), .inl (Int32.ofNat ((f 280 2).toInt.toNat))]) (m' := (r_goMeasure_f17 f ((f 280 2).toInt.toNat), l)) rfl rfl (fl_bo rfl) rfl ?_
  refine fl_Tq.cI (c := (2 : Int32)) rfl (by decide +kernel) (fl_bo rfl) ?_
  refine fl_Tq.ldV (p := 280) (τ := 79) (n := 29780) (z := (0, 0, 0)) (k := 2) (v := f 280 2) rfl (fl_bo rfl) rfl (by decide +kernel) (by decide) (by simp only [r_goMeasure_f17_w (k := (f 280 2).toInt.toNat) (w := 2) (fun j hj => by omega) (fun j hj => by omega) (fun j hj => by omega) (fun j hj => by omega)]) ?_
  refine fl_Tq.jt rfl (fl_bo rfl) (c2_ge_t (t2_ln (t2_nn hn.1))) rfl ?_
  refine fl_Tq.stp (pc' := 120) (lv' := [some (.inr (.inr (.inl (76, 277)))), some (.inl ((f 280 5) - (f 280 14))), some (.inl (Int32.ofNat ((f 280 2).toInt.toNat))), none]) (st' := [.inr (.inr (.inl (76, 277)))]) (m' := (r_goMeasure_f17 f ((f 280 2).toInt.toNat), l)) rfl rfl (fl_bo rfl) rfl ?_
  refine fl_Tq.stp (pc' := 123) (lv' := [some (.inr (.inr (.inl (76, 277)))), some (.inl ((f 280 5) - (f 280 14))), some (.inl (Int32.ofNat ((f 280 2).toInt.toNat))), none]) (st' := [.inr (.inr (.inl (79, 280)))]) (m' := (r_goMeasure_f17 f ((f 280 2).toInt.toNat), l)) rfl rfl (fl_bo rfl) rfl ?_
  refine fl_Tq.cB (c := (14 : Int32)) rfl (by decide +kernel) (fl_bo rfl) ?_
  refine fl_Tq.stp (pc' := 126) (lv' := [some (.inr (.inr (.inl (76, 277)))), some (.inl ((f 280 5) - (f 280 14))), some (.inl (Int32.ofNat ((f 280 2).toInt.toNat))), none]) (st' := [.inr (.inr (.inl (76, 277))), .inl (14 : Int32), .inr (.inr (.inl (79, 280)))]) (m' := (r_goMeasure_f17 f ((f 280 2).toInt.toNat), l)) rfl rfl (fl_bo rfl) rfl ?_
  refine fl_Tq.stp (pc' := 129) (lv' := [some (.inr (.inr (.inl (76, 277)))), some (.inl ((f 280 5) - (f 280 14))), some (.inl (Int32.ofNat ((f 280 2).toInt.toNat))), none]) (st' := [.inr (.inr (.inl (79, 280))), .inl (14 : Int32), .inr (.inr (.inl (79, 280)))]) (m' := (r_goMeasure_f17 f ((f 280 2).toInt.toNat), l)) rfl rfl (fl_bo rfl) rfl ?_
  refine fl_Tq.cI (c := (5 : Int32)) rfl (by decide +kernel) (fl_bo rfl) ?_
  refine fl_Tq.ldV (p := 280) (τ := 79) (n := 29780) (z := (0, 0, 0)) (k := 5) (v := f 280 5) rfl (fl_bo rfl) rfl (by decide +kernel) (by decide) (by simp only [r_goMeasure_f17_w (k := (f 280 2).toInt.toNat) (w := 5) (fun j hj => by omega) (fun j hj => by omega) (fun j hj => by omega) (fun j hj => by omega)]) ?_
  refine fl_Tq.svV (p := 280) (τ := 79) (n := 29780) (z := (0, 0, 0)) (k := 14) (m' := (fl_row (r_goMeasure_f17 f ((f 280 2).toInt.toNat)) 280 (upd ((r_goMeasure_f17 f ((f 280 2).toInt.toNat)) 280) 14 (f 280 5)), l)) rfl (fl_bo rfl) rfl (by decide +kernel) (by decide) (t2_upn rfl) ?_
  refine fl_Tq.stp (pc' := 133) (lv' := [some (.inr (.inr (.inl (76, 277)))), some (.inl ((f 280 5) - (f 280 14))), some (.inl (Int32.ofNat ((f 280 2).toInt.toNat))), none]) (st' := [.inr (.inr (.inl (76, 277)))]) (m' := (fl_row (r_goMeasure_f17 f ((f 280 2).toInt.toNat)) 280 (upd ((r_goMeasure_f17 f ((f 280 2).toInt.toNat)) 280) 14 (f 280 5)), l)) rfl rfl (fl_bo rfl) rfl ?_
  refine fl_Tq.stp (pc' := 136) (lv' := [some (.inr (.inr (.inl (76, 277)))), some (.inl ((f 280 5) - (f 280 14))), some (.inl (Int32.ofNat ((f 280 2).toInt.toNat))), none]) (st' := [.inr (.inr (.inl (79, 280)))]) (m' := (fl_row (r_goMeasure_f17 f ((f 280 2).toInt.toNat)) 280 (upd ((r_goMeasure_f17 f ((f 280 2).toInt.toNat)) 280) 14 (f 280 5)), l)) rfl rfl (fl_bo rfl) rfl ?_
  refine fl_Tq.cB (c := (9 : Int32)) rfl (by decide +kernel) (fl_bo rfl) ?_
  refine fl_Tq.stp (pc' := 139) (lv' := [some (.inr (.inr (.inl (76, 277)))), some (.inl ((f 280 5) - (f 280 14))), some (.inl (Int32.ofNat ((f 280 2).toInt.toNat))), none]) (st' := [.inr (.inr (.inl (76, 277))), .inl (9 : Int32), .inr (.inr (.inl (79, 280)))]) (m' := (fl_row (r_goMeasure_f17 f ((f 280 2).toInt.toNat)) 280 (upd ((r_goMeasure_f17 f ((f 280 2).toInt.toNat)) 280) 14 (f 280 5)), l)) rfl rfl (fl_bo rfl) rfl ?_
  refine fl_Tq.stp (pc' := 142) (lv' := [some (.inr (.inr (.inl (76, 277)))), some (.inl ((f 280 5) - (f 280 14))), some (.inl (Int32.ofNat ((f 280 2).toInt.toNat))), none]) (st' := [.inr (.inr (.inl (79, 280))), .inl (9 : Int32), .inr (.inr (.inl (79, 280)))]) (m' := (fl_row (r_goMeasure_f17 f ((f 280 2).toInt.toNat)) 280 (upd ((r_goMeasure_f17 f ((f 280 2).toInt.toNat)) 280) 14 (f 280 5)), l)) rfl rfl (fl_bo rfl) rfl ?_
  refine fl_Tq.cI (c := (5 : Int32)) rfl (by decide +kernel) (fl_bo rfl) ?_
  refine fl_Tq.ldV (p := 280) (τ := 79) (n := 29780) (z := (0, 0, 0)) (k := 5) (v := f 280 5) rfl (fl_bo rfl) rfl (by decide +kernel) (by decide) (by simp only [fl_row_self, upd_ne (by decide : 5 ≠ 14), r_goMeasure_f17_w (k := (f 280 2).toInt.toNat) (w := 5) (fun j hj => by omega) (fun j hj => by omega) (fun j hj => by omega) (fun j hj => by omega)]) ?_
  have hj126 : fl_Tq (pw_P L xs) 225 160 [some (.inr (.inr (.inl (76, 277)))), some (.inl ((f 280 5) - (f 280 14))), some (.inl (Int32.ofNat ((f 280 2).toInt.toNat))), none] [.inl (r_goMeasure_j144_0 f), .inl (9 : Int32), .inr (.inr (.inl (79, 280)))] (fl_row (r_goMeasure_f17 f ((f 280 2).toInt.toNat)) 280 (upd ((r_goMeasure_f17 f ((f 280 2).toInt.toNat)) 280) 14 (f 280 5)), l) Q → fl_Tq (pw_P L xs) 225 144 [some (.inr (.inr (.inl (76, 277)))), some (.inl ((f 280 5) - (f 280 14))), some (.inl (Int32.ofNat ((f 280 2).toInt.toNat))), none] [.inl (f 280 5), .inl (9 : Int32), .inr (.inr (.inl (79, 280)))] (fl_row (r_goMeasure_f17 f ((f 280 2).toInt.toNat)) 280 (upd ((r_goMeasure_f17 f ((f 280 2).toInt.toNat)) 280) 14 (f 280 5)), l) Q := by
    intro hJ
    by_cases h1 : (f 280 5).toInt = 0
    · refine fl_Tq.zf rfl (fl_bo rfl) (c1_ne_f h1) rfl ?_
      refine fl_Tq.stp (pc' := 148) (lv' := [some (.inr (.inr (.inl (76, 277)))), some (.inl ((f 280 5) - (f 280 14))), some (.inl (Int32.ofNat ((f 280 2).toInt.toNat))), none]) (st' := [.inr (.inr (.inl (76, 277))), .inl (9 : Int32), .inr (.inr (.inl (79, 280)))]) (m' := (fl_row (r_goMeasure_f17 f ((f 280 2).toInt.toNat)) 280 (upd ((r_goMeasure_f17 f ((f 280 2).toInt.toNat)) 280) 14 (f 280 5)), l)) rfl rfl (fl_bo rfl) rfl ?_
      refine fl_Tq.stp (pc' := 151) (lv' := [some (.inr (.inr (.inl (76, 277)))), some (.inl ((f 280 5) - (f 280 14))), some (.inl (Int32.ofNat ((f 280 2).toInt.toNat))), none]) (st' := [.inr (.inr (.inl (79, 280))), .inl (9 : Int32), .inr (.inr (.inl (79, 280)))]) (m' := (fl_row (r_goMeasure_f17 f ((f 280 2).toInt.toNat)) 280 (upd ((r_goMeasure_f17 f ((f 280 2).toInt.toNat)) 280) 14 (f 280 5)), l)) rfl rfl (fl_bo rfl) rfl ?_
      refine fl_Tq.cB (c := (9 : Int32)) rfl (by decide +kernel) (fl_bo rfl) ?_
      refine fl_Tq.ldV (p := 280) (τ := 79) (n := 29780) (z := (0, 0, 0)) (k := 9) (v := f 280 9) rfl (fl_bo rfl) rfl (by decide +kernel) (by decide) (by simp only [fl_row_self, upd_ne (by decide : 9 ≠ 14), r_goMeasure_f17_w (k := (f 280 2).toInt.toNat) (w := 9) (fun j hj => by omega) (fun j hj => by omega) (fun j hj => by omega) (fun j hj => by omega)]) ?_
      refine fl_Tq.cI (c := (1 : Int32)) rfl (by decide +kernel) (fl_bo rfl) ?_
      refine fl_Tq.stp (pc' := 156) (lv' := [some (.inr (.inr (.inl (76, 277)))), some (.inl ((f 280 5) - (f 280 14))), some (.inl (Int32.ofNat ((f 280 2).toInt.toNat))), none]) (st' := [.inl ((f 280 9) + (1 : Int32)), .inl (9 : Int32), .inr (.inr (.inl (79, 280)))]) (m' := (fl_row (r_goMeasure_f17 f ((f 280 2).toInt.toNat)) 280 (upd ((r_goMeasure_f17 f ((f 280 2).toInt.toNat)) 280) 14 (f 280 5)), l)) rfl rfl (fl_bo rfl) rfl ?_
      refine fl_Tq.stp (pc' := 160) (lv' := [some (.inr (.inr (.inl (76, 277)))), some (.inl ((f 280 5) - (f 280 14))), some (.inl (Int32.ofNat ((f 280 2).toInt.toNat))), none]) (st' := [.inl ((f 280 9) + (1 : Int32)), .inl (9 : Int32), .inr (.inr (.inl (79, 280)))]) (m' := (fl_row (r_goMeasure_f17 f ((f 280 2).toInt.toNat)) 280 (upd ((r_goMeasure_f17 f ((f 280 2).toInt.toNat)) 280) 14 (f 280 5)), l)) rfl rfl (fl_bo rfl) rfl ?_
      have e0 : (r_goMeasure_j144_0 f) = (f 280 9) + (1 : Int32) := by simp only [r_goMeasure_j144_0, if_pos h1]
      rw [e0] at hJ
      exact hJ
    · refine fl_Tq.zt rfl (fl_bo rfl) (c1_ne_t h1) rfl ?_
      refine fl_Tq.cI (c := (0 : Int32)) rfl (by decide +kernel) (fl_bo rfl) ?_
      have e0 : (r_goMeasure_j144_0 f) = (0 : Int32) := by simp only [r_goMeasure_j144_0, if_neg h1]
      rw [e0] at hJ
      exact hJ
  refine hj126 ?_
  show fl_Tq _ 225 160 [some (.inr (.inr (.inl (76, 277)))), some (.inl ((f 280 5) - (f 280 14))), some (.inl (Int32.ofNat ((f 280 2).toInt.toNat))), none] [.inl (r_goMeasure_j144_0 f), .inl (9 : Int32), .inr (.inr (.inl (79, 280)))] (fl_row (r_goMeasure_f17 f ((f 280 2).toInt.toNat)) 280 (upd ((r_goMeasure_f17 f ((f 280 2).toInt.toNat)) 280) 14 (f 280 5)), l) _
  refine fl_Tq.svV (p := 280) (τ := 79) (n := 29780) (z := (0, 0, 0)) (k := 9) (m' := (fl_row (r_goMeasure_f17 f ((f 280 2).toInt.toNat)) 280 (upd (upd ((r_goMeasure_f17 f ((f 280 2).toInt.toNat)) 280) 14 (f 280 5)) 9 (r_goMeasure_j144_0 f)), l)) rfl (fl_bo rfl) rfl (by decide +kernel) (by decide) (t2_upr) ?_
  refine fl_Tq.cI (c := (0 : Int32)) rfl (by decide +kernel) (fl_bo rfl) ?_
  refine fl_Tq.stp (pc' := 163) (lv' := [some (.inr (.inr (.inl (76, 277)))), some (.inl ((f 280 5) - (f 280 14))), some (.inl (0 : Int32)), none]) (st' := []) (m' := (fl_row (r_goMeasure_f17 f ((f 280 2).toInt.toNat)) 280 (upd (upd ((r_goMeasure_f17 f ((f 280 2).toInt.toNat)) 280) 14 (f 280 5)) 9 (r_goMeasure_j144_0 f)), l)) rfl rfl (fl_bo rfl) rfl ?_
  by_cases h2 : (r_goMeasure_j144_0 f).toInt = (f 280 53).toInt
  · have hs163 : ∀ k : Nat, k < (f 280 2).toInt.toNat → fl_Tq (pw_P L xs) 225 163 [some (.inr (.inr (.inl (76, 277)))), some (.inl ((f 280 5) - (f 280 14))), some (.inl (Int32.ofNat (k + 1))), none] [] (r_goMeasure_f163 f (k + 1), l) Q → fl_Tq (pw_P L xs) 225 163 [some (.inr (.inr (.inl (76, 277)))), some (.inl ((f 280 5) - (f 280 14))), some (.inl (Int32.ofNat k)), none] [] (r_goMeasure_f163 f k, l) Q := fun k hkn hS => r_goMeasure_b163_q hkn (by simp only [r_goMeasure_f163_w (k := k) (w := 2) (fun j hj => by omega) (fun j hj => by omega) (fun j hj => by omega) (fun j hj => by omega), fl_row_self, upd_ne (by decide : 2 ≠ 9), upd_ne (by decide : 2 ≠ 14), r_goMeasure_f17_w (k := (f 280 2).toInt.toNat) (w := 2) (fun j hj => by omega) (fun j hj => by omega) (fun j hj => by omega) (fun j hj => by omega)]; exact (t2_nn hn.1)) (by omega) (fun j => by simp only [r_goMeasure_f163_fr (k := k) (p := 279) (by decide : 279 ≠ 280), fl_row_ne (by decide : 279 ≠ 280), r_goMeasure_f17_fr (k := (f 280 2).toInt.toNat) (p := 279) (by decide : 279 ≠ 280)]; exact hr j) (by unfold t2_ck; simp only [r_goMeasure_f163_w (k := k) (w := 444 + 61 * k + 0) (fun j hj => by omega) (fun j hj => by omega) (fun j hj => by omega) (fun j hj => by omega), fl_row_self, upd_ne (by omega : 444 + 61 * k + 0 ≠ 9), upd_ne (by omega : 444 + 61 * k + 0 ≠ 14), r_goMeasure_f17_w (k := (f 280 2).toInt.toNat) (w := 444 + 61 * k + 0) (fun j hj => by omega) (fun j hj => by omega) (fun j hj => by omega) (fun j hj => by omega), r_goMeasure_f163_w (k := k) (w := 444 + 61 * k + 1) (fun j hj => by omega) (fun j hj => by omega) (fun j hj => by omega) (fun j hj => by omega), upd_ne (by omega : 444 + 61 * k + 1 ≠ 9), upd_ne (by omega : 444 + 61 * k + 1 ≠ 14), r_goMeasure_f17_w (k := (f 280 2).toInt.toNat) (w := 444 + 61 * k + 1) (fun j hj => by omega) (fun j hj => by omega) (fun j hj => by omega) (fun j hj => by omega), r_goMeasure_f163_w (k := k) (w := 444 + 61 * k + 16) (fun j hj => by omega) (fun j hj => by omega) (fun j hj => by omega) (fun j hj => by omega), upd_ne (by omega : 444 + 61 * k + 16 ≠ 9), upd_ne (by omega : 444 + 61 * k + 16 ≠ 14), r_goMeasure_f17_w (k := (f 280 2).toInt.toNat) (w := 444 + 61 * k + 16) (fun j hj => by omega) (fun j hj => by omega) (fun j hj => by omega) (fun j hj => by omega)]; exact hk k (by omega)) (by simp only [r_goMeasure_f163_w (k := k) (w := 444 + 61 * k + 0) (fun j hj => by omega) (fun j hj => by omega) (fun j hj => by omega) (fun j hj => by omega), fl_row_self, upd_ne (by omega : 444 + 61 * k + 0 ≠ 9), upd_ne (by omega : 444 + 61 * k + 0 ≠ 14), r_goMeasure_f17_w (k := (f 280 2).toInt.toNat) (w := 444 + 61 * k + 0) (fun j hj => by omega) (fun j hj => by omega) (fun j hj => by omega) (fun j hj => by omega), r_goMeasure_f163_w (k := k) (w := 444 + 61 * k + 1) (fun j hj => by omega) (fun j hj => by omega) (fun j hj => by omega) (fun j hj => by omega), upd_ne (by omega : 444 + 61 * k + 1 ≠ 9), upd_ne (by omega : 444 + 61 * k + 1 ≠ 14), r_goMeasure_f17_w (k := (f 280 2).toInt.toNat) (w := 444 + 61 * k + 1) (fun j hj => by omega) (fun j hj => by omega) (fun j hj => by omega) (fun j hj => by omega), r_goMeasure_f163_w (k := k) (w := 444 + 61 * k + 16) (fun j hj => by omega) (fun j hj => by omega) (fun j hj => by omega) (fun j hj => by omega), upd_ne (by omega : 444 + 61 * k + 16 ≠ 9), upd_ne (by omega : 444 + 61 * k + 16 ≠ 14), r_goMeasure_f17_w (k := (f 280 2).toInt.toNat) (w := 444 + 61 * k + 16) (fun j hj => by omega) (fun j hj => by omega) (fun j hj => by omega) (fun j hj => by omega)]; exact hw k (by omega)) (by simp only [r_goMeasure_f163_w (k := k) (w := 9) (fun j hj => by omega) (fun j hj => by omega) (fun j hj => by omega) (fun j hj => by omega), fl_row_self, upd_self, r_goMeasure_f163_w (k := k) (w := 53) (fun j hj => by omega) (fun j hj => by omega) (fun j hj => by omega) (fun j hj => by omega), upd_ne (by decide : 53 ≠ 9), upd_ne (by decide : 53 ≠ 14), r_goMeasure_f17_w (k := (f 280 2).toInt.toNat) (w := 53) (fun j hj => by omega) (fun j hj => by omega) (fun j hj => by omega) (fun j hj => by omega)]; assumption) hS
    refine t2_for (S := fun k => fl_Tq (pw_P L xs) 225 163 [some (.inr (.inr (.inl (76, 277)))), some (.inl ((f 280 5) - (f 280 14))), some (.inl (Int32.ofNat k)), none] [] (r_goMeasure_f163 f k, l) Q) hs163 ?_
    show fl_Tq (pw_P L xs) 225 163 [some (.inr (.inr (.inl (76, 277)))), some (.inl ((f 280 5) - (f 280 14))), some (.inl (Int32.ofNat ((f 280 2).toInt.toNat))), none] [] (r_goMeasure_f163 f ((f 280 2).toInt.toNat), l) _
    refine fl_Tq.stp (pc' := 164) (lv' := [some (.inr (.inr (.inl (76, 277)))), some (.inl ((f 280 5) - (f 280 14))), some (.inl (Int32.ofNat ((f 280 2).toInt.toNat))), none]) (st' := [.inl (Int32.ofNat ((f 280 2).toInt.toNat))]) (m' := (r_goMeasure_f163 f ((f 280 2).toInt.toNat), l)) rfl rfl (fl_bo rfl) rfl ?_
    refine fl_Tq.stp (pc' := 165) (lv' := [some (.inr (.inr (.inl (76, 277)))), some (.inl ((f 280 5) - (f 280 14))), some (.inl (Int32.ofNat ((f 280 2).toInt.toNat))), none]) (st' := [.inr (.inr (.inl (76, 277))), .inl (Int32.ofNat ((f 280 2).toInt.toNat))]) (m' := (r_goMeasure_f163 f ((f 280 2).toInt.toNat), l)) rfl rfl (fl_bo rfl) rfl ?_
    refine fl_Tq.stp (pc' := 168) (lv' := [some (.inr (.inr (.inl (76, 277)))), some (.inl ((f 280 5) - (f 280 14))), some (.inl (Int32.ofNat ((f 280 2).toInt.toNat))), none]) (st' := [.inr (.inr (.inl (79, 280))), .inl (Int32.ofNat ((f 280 2).toInt.toNat))]) (m' := (r_goMeasure_f163 f ((f 280 2).toInt.toNat), l)) rfl rfl (fl_bo rfl) rfl ?_
    refine fl_Tq.cI (c := (2 : Int32)) rfl (by decide +kernel) (fl_bo rfl) ?_
    refine fl_Tq.ldV (p := 280) (τ := 79) (n := 29780) (z := (0, 0, 0)) (k := 2) (v := f 280 2) rfl (fl_bo rfl) rfl (by decide +kernel) (by decide) (by simp only [r_goMeasure_f163_w (k := (f 280 2).toInt.toNat) (w := 2) (fun j hj => by omega) (fun j hj => by omega) (fun j hj => by omega) (fun j hj => by omega), fl_row_self, upd_ne (by decide : 2 ≠ 9), upd_ne (by decide : 2 ≠ 14), r_goMeasure_f17_w (k := (f 280 2).toInt.toNat) (w := 2) (fun j hj => by omega) (fun j hj => by omega) (fun j hj => by omega) (fun j hj => by omega)]) ?_
    refine fl_Tq.jt rfl (fl_bo rfl) (c2_ge_t (t2_ln (t2_nn hn.1))) rfl ?_
    refine fl_Tq.stp (pc' := 201) (lv' := [some (.inr (.inr (.inl (76, 277)))), some (.inl ((f 280 5) - (f 280 14))), some (.inl (Int32.ofNat ((f 280 2).toInt.toNat))), none]) (st' := [.inr (.inr (.inl (76, 277)))]) (m' := (r_goMeasure_f163 f ((f 280 2).toInt.toNat), l)) rfl rfl (fl_bo rfl) rfl ?_
    refine fl_Tq.cal rfl rfl (fl_bo rfl) rfl ?_
    refine r_isLive_q  ?_
    show fl_Tq _ 225 204 [some (.inr (.inr (.inl (76, 277)))), some (.inl ((f 280 5) - (f 280 14))), some (.inl (Int32.ofNat ((f 280 2).toInt.toNat))), none] [.inl (r_isLive_v (r_goMeasure_f163 f ((f 280 2).toInt.toNat)))] (r_goMeasure_f163 f ((f 280 2).toInt.toNat), l) _
    have hj127 : fl_Tq (pw_P L xs) 225 217 [some (.inr (.inr (.inl (76, 277)))), some (.inl ((f 280 5) - (f 280 14))), some (.inl (Int32.ofNat ((f 280 2).toInt.toNat))), none] [] (fl_row (r_goMeasure_f163 f ((f 280 2).toInt.toNat)) 280 (upd ((r_goMeasure_f163 f ((f 280 2).toInt.toNat)) 280) 4 (r_goMeasure_j204_0 f)), l) Q → fl_Tq (pw_P L xs) 225 204 [some (.inr (.inr (.inl (76, 277)))), some (.inl ((f 280 5) - (f 280 14))), some (.inl (Int32.ofNat ((f 280 2).toInt.toNat))), none] [.inl (r_isLive_v (r_goMeasure_f163 f ((f 280 2).toInt.toNat)))] (r_goMeasure_f163 f ((f 280 2).toInt.toNat), l) Q := by
      intro hJ
      by_cases h3 : (r_isLive_v (r_goMeasure_f163 f ((f 280 2).toInt.toNat))).toInt = 0
      · refine fl_Tq.zt rfl (fl_bo rfl) (c1_eq_t h3) rfl ?_
        have e0 : (fl_row (r_goMeasure_f163 f ((f 280 2).toInt.toNat)) 280 (upd ((r_goMeasure_f163 f ((f 280 2).toInt.toNat)) 280) 4 (r_goMeasure_j204_0 f))) = r_goMeasure_f163 f ((f 280 2).toInt.toNat) := by
          simp only [r_goMeasure_j204_0, if_pos h3]
          funext q j
          simp only [fl_row, upd]
          repeat' split
          all_goals first | rfl | simp_all
        rw [e0] at hJ
        exact hJ
      · refine fl_Tq.zf rfl (fl_bo rfl) (c1_eq_f h3) rfl ?_
        refine fl_Tq.stp (pc' := 208) (lv' := [some (.inr (.inr (.inl (76, 277)))), some (.inl ((f 280 5) - (f 280 14))), some (.inl (Int32.ofNat ((f 280 2).toInt.toNat))), none]) (st' := [.inr (.inr (.inl (76, 277)))]) (m' := (r_goMeasure_f163 f ((f 280 2).toInt.toNat), l)) rfl rfl (fl_bo rfl) rfl ?_
        refine fl_Tq.stp (pc' := 211) (lv' := [some (.inr (.inr (.inl (76, 277)))), some (.inl ((f 280 5) - (f 280 14))), some (.inl (Int32.ofNat ((f 280 2).toInt.toNat))), none]) (st' := [.inr (.inr (.inl (79, 280)))]) (m' := (r_goMeasure_f163 f ((f 280 2).toInt.toNat), l)) rfl rfl (fl_bo rfl) rfl ?_
        refine fl_Tq.cI (c := (4 : Int32)) rfl (by decide +kernel) (fl_bo rfl) ?_
        refine fl_Tq.stp (pc' := 213) (lv' := [some (.inr (.inr (.inl (76, 277)))), some (.inl ((f 280 5) - (f 280 14))), some (.inl (Int32.ofNat ((f 280 2).toInt.toNat))), none]) (st' := [.inr (.inr (.inl (76, 277))), .inl (4 : Int32), .inr (.inr (.inl (79, 280)))]) (m' := (r_goMeasure_f163 f ((f 280 2).toInt.toNat), l)) rfl rfl (fl_bo rfl) rfl ?_
        refine fl_Tq.cal rfl rfl (fl_bo rfl) rfl ?_
        refine r_pack_q (by simp only [r_goMeasure_f163_w (k := (f 280 2).toInt.toNat) (w := 2) (fun j hj => by omega) (fun j hj => by omega) (fun j hj => by omega) (fun j hj => by omega), fl_row_self, upd_ne (by decide : 2 ≠ 9), upd_ne (by decide : 2 ≠ 14), r_goMeasure_f17_w (k := (f 280 2).toInt.toNat) (w := 2) (fun j hj => by omega) (fun j hj => by omega) (fun j hj => by omega) (fun j hj => by omega)]; exact hn) (fun j => by simp only [r_goMeasure_f163_fr (k := (f 280 2).toInt.toNat) (p := 279) (by decide : 279 ≠ 280), fl_row_ne (by decide : 279 ≠ 280), r_goMeasure_f17_fr (k := (f 280 2).toInt.toNat) (p := 279) (by decide : 279 ≠ 280)]; exact hr j) (fun C hC => by simp only [r_goMeasure_f163_w (k := (f 280 2).toInt.toNat) (w := 2) (fun j hj => by omega) (fun j hj => by omega) (fun j hj => by omega) (fun j hj => by omega), fl_row_self, upd_ne (by decide : 2 ≠ 9), upd_ne (by decide : 2 ≠ 14), r_goMeasure_f17_w (k := (f 280 2).toInt.toNat) (w := 2) (fun j hj => by omega) (fun j hj => by omega) (fun j hj => by omega) (fun j hj => by omega), r_goMeasure_f163_w (k := (f 280 2).toInt.toNat) (w := 444 + 61 * C + 0) (fun j hj => by omega) (fun j hj => by omega) (fun j hj => by omega) (fun j hj => by omega), upd_ne (by omega : 444 + 61 * C + 0 ≠ 9), upd_ne (by omega : 444 + 61 * C + 0 ≠ 14), r_goMeasure_f17_w (k := (f 280 2).toInt.toNat) (w := 444 + 61 * C + 0) (fun j hj => by omega) (fun j hj => by omega) (fun j hj => by omega) (fun j hj => by omega), r_goMeasure_f163_w (k := (f 280 2).toInt.toNat) (w := 444 + 61 * C + 1) (fun j hj => by omega) (fun j hj => by omega) (fun j hj => by omega) (fun j hj => by omega), upd_ne (by omega : 444 + 61 * C + 1 ≠ 9), upd_ne (by omega : 444 + 61 * C + 1 ≠ 14), r_goMeasure_f17_w (k := (f 280 2).toInt.toNat) (w := 444 + 61 * C + 1) (fun j hj => by omega) (fun j hj => by omega) (fun j hj => by omega) (fun j hj => by omega)] at hC; unfold t2_ck; simp only [r_goMeasure_f163_w (k := (f 280 2).toInt.toNat) (w := 2) (fun j hj => by omega) (fun j hj => by omega) (fun j hj => by omega) (fun j hj => by omega), fl_row_self, upd_ne (by decide : 2 ≠ 9), upd_ne (by decide : 2 ≠ 14), r_goMeasure_f17_w (k := (f 280 2).toInt.toNat) (w := 2) (fun j hj => by omega) (fun j hj => by omega) (fun j hj => by omega) (fun j hj => by omega), r_goMeasure_f163_w (k := (f 280 2).toInt.toNat) (w := 444 + 61 * C + 0) (fun j hj => by omega) (fun j hj => by omega) (fun j hj => by omega) (fun j hj => by omega), upd_ne (by omega : 444 + 61 * C + 0 ≠ 9), upd_ne (by omega : 444 + 61 * C + 0 ≠ 14), r_goMeasure_f17_w (k := (f 280 2).toInt.toNat) (w := 444 + 61 * C + 0) (fun j hj => by omega) (fun j hj => by omega) (fun j hj => by omega) (fun j hj => by omega), r_goMeasure_f163_w (k := (f 280 2).toInt.toNat) (w := 444 + 61 * C + 1) (fun j hj => by omega) (fun j hj => by omega) (fun j hj => by omega) (fun j hj => by omega), upd_ne (by omega : 444 + 61 * C + 1 ≠ 9), upd_ne (by omega : 444 + 61 * C + 1 ≠ 14), r_goMeasure_f17_w (k := (f 280 2).toInt.toNat) (w := 444 + 61 * C + 1) (fun j hj => by omega) (fun j hj => by omega) (fun j hj => by omega) (fun j hj => by omega)]; exact hk C hC) ?_
        show fl_Tq _ 225 216 [some (.inr (.inr (.inl (76, 277)))), some (.inl ((f 280 5) - (f 280 14))), some (.inl (Int32.ofNat ((f 280 2).toInt.toNat))), none] [.inl (r_pack_v (r_goMeasure_f163 f ((f 280 2).toInt.toNat))), .inl (4 : Int32), .inr (.inr (.inl (79, 280)))] (r_goMeasure_f163 f ((f 280 2).toInt.toNat), l) _
        refine fl_Tq.svV (p := 280) (τ := 79) (n := 29780) (z := (0, 0, 0)) (k := 4) (m' := (fl_row (r_goMeasure_f163 f ((f 280 2).toInt.toNat)) 280 (upd ((r_goMeasure_f163 f ((f 280 2).toInt.toNat)) 280) 4 (r_pack_v (r_goMeasure_f163 f ((f 280 2).toInt.toNat)))), l)) rfl (fl_bo rfl) rfl (by decide +kernel) (by decide) (t2_upn rfl) ?_
        have e0 : (fl_row (r_goMeasure_f163 f ((f 280 2).toInt.toNat)) 280 (upd ((r_goMeasure_f163 f ((f 280 2).toInt.toNat)) 280) 4 (r_goMeasure_j204_0 f))) = fl_row (r_goMeasure_f163 f ((f 280 2).toInt.toNat)) 280 (upd ((r_goMeasure_f163 f ((f 280 2).toInt.toNat)) 280) 4 (r_pack_v (r_goMeasure_f163 f ((f 280 2).toInt.toNat)))) := by
          simp only [r_goMeasure_j204_0, if_neg h3]
        rw [e0] at hJ
        exact hJ
    refine hj127 ?_
    show fl_Tq _ 225 217 [some (.inr (.inr (.inl (76, 277)))), some (.inl ((f 280 5) - (f 280 14))), some (.inl (Int32.ofNat ((f 280 2).toInt.toNat))), none] [] (fl_row (r_goMeasure_f163 f ((f 280 2).toInt.toNat)) 280 (upd ((r_goMeasure_f163 f ((f 280 2).toInt.toNat)) 280) 4 (r_goMeasure_j204_0 f)), l) _
    refine fl_Tq.ret rfl rfl rfl ?_
    unfold r_goMeasure_m at k
    simp only [if_pos h2] at k
    exact k
  · refine fl_Tq.stp (pc' := 164) (lv' := [some (.inr (.inr (.inl (76, 277)))), some (.inl ((f 280 5) - (f 280 14))), some (.inl (0 : Int32)), none]) (st' := [.inl (0 : Int32)]) (m' := (fl_row (r_goMeasure_f17 f ((f 280 2).toInt.toNat)) 280 (upd (upd ((r_goMeasure_f17 f ((f 280 2).toInt.toNat)) 280) 14 (f 280 5)) 9 (r_goMeasure_j144_0 f)), l)) rfl rfl (fl_bo rfl) rfl ?_
    refine fl_Tq.stp (pc' := 165) (lv' := [some (.inr (.inr (.inl (76, 277)))), some (.inl ((f 280 5) - (f 280 14))), some (.inl (0 : Int32)), none]) (st' := [.inr (.inr (.inl (76, 277))), .inl (0 : Int32)]) (m' := (fl_row (r_goMeasure_f17 f ((f 280 2).toInt.toNat)) 280 (upd (upd ((r_goMeasure_f17 f ((f 280 2).toInt.toNat)) 280) 14 (f 280 5)) 9 (r_goMeasure_j144_0 f)), l)) rfl rfl (fl_bo rfl) rfl ?_
    refine fl_Tq.stp (pc' := 168) (lv' := [some (.inr (.inr (.inl (76, 277)))), some (.inl ((f 280 5) - (f 280 14))), some (.inl (0 : Int32)), none]) (st' := [.inr (.inr (.inl (79, 280))), .inl (0 : Int32)]) (m' := (fl_row (r_goMeasure_f17 f ((f 280 2).toInt.toNat)) 280 (upd (upd ((r_goMeasure_f17 f ((f 280 2).toInt.toNat)) 280) 14 (f 280 5)) 9 (r_goMeasure_j144_0 f)), l)) rfl rfl (fl_bo rfl) rfl ?_
    refine fl_Tq.cI (c := (2 : Int32)) rfl (by decide +kernel) (fl_bo rfl) ?_
    refine fl_Tq.ldV (p := 280) (τ := 79) (n := 29780) (z := (0, 0, 0)) (k := 2) (v := f 280 2) rfl (fl_bo rfl) rfl (by decide +kernel) (by decide) (by simp only [fl_row_self, upd_ne (by decide : 2 ≠ 9), upd_ne (by decide : 2 ≠ 14), r_goMeasure_f17_w (k := (f 280 2).toInt.toNat) (w := 2) (fun j hj => by omega) (fun j hj => by omega) (fun j hj => by omega) (fun j hj => by omega)]) ?_
    have hj128 : fl_Tq (pw_P L xs) 225 200 [some (.inr (.inr (.inl (76, 277)))), some (.inl ((f 280 5) - (f 280 14))), some (.inl (0 : Int32)), none] [] (fl_row (r_goMeasure_f17 f ((f 280 2).toInt.toNat)) 280 (upd (upd ((r_goMeasure_f17 f ((f 280 2).toInt.toNat)) 280) 14 (f 280 5)) 9 (r_goMeasure_j144_0 f)), l) Q → fl_Tq (pw_P L xs) 225 170 [some (.inr (.inr (.inl (76, 277)))), some (.inl ((f 280 5) - (f 280 14))), some (.inl (0 : Int32)), none] [.inl (f 280 2), .inl (0 : Int32)] (fl_row (r_goMeasure_f17 f ((f 280 2).toInt.toNat)) 280 (upd (upd ((r_goMeasure_f17 f ((f 280 2).toInt.toNat)) 280) 14 (f 280 5)) 9 (r_goMeasure_j144_0 f)), l) Q := by
      intro hJ
      by_cases h4 : (0 : Int32).toInt < (f 280 2).toInt
      · refine fl_Tq.jf rfl (fl_bo rfl) (c2_ge_f h4) rfl ?_
        refine fl_Tq.stp (pc' := 174) (lv' := [some (.inr (.inr (.inl (76, 277)))), some (.inl ((f 280 5) - (f 280 14))), some (.inl (0 : Int32)), none]) (st' := [.inr (.inr (.inl (76, 277)))]) (m' := (fl_row (r_goMeasure_f17 f ((f 280 2).toInt.toNat)) 280 (upd (upd ((r_goMeasure_f17 f ((f 280 2).toInt.toNat)) 280) 14 (f 280 5)) 9 (r_goMeasure_j144_0 f)), l)) rfl rfl (fl_bo rfl) rfl ?_
        refine fl_Tq.stp (pc' := 177) (lv' := [some (.inr (.inr (.inl (76, 277)))), some (.inl ((f 280 5) - (f 280 14))), some (.inl (0 : Int32)), none]) (st' := [.inr (.inr (.inl (79, 280)))]) (m' := (fl_row (r_goMeasure_f17 f ((f 280 2).toInt.toNat)) 280 (upd (upd ((r_goMeasure_f17 f ((f 280 2).toInt.toNat)) 280) 14 (f 280 5)) 9 (r_goMeasure_j144_0 f)), l)) rfl rfl (fl_bo rfl) rfl ?_
        refine fl_Tq.cB (c := (9 : Int32)) rfl (by decide +kernel) (fl_bo rfl) ?_
        refine fl_Tq.ldV (p := 280) (τ := 79) (n := 29780) (z := (0, 0, 0)) (k := 9) (v := r_goMeasure_j144_0 f) rfl (fl_bo rfl) rfl (by decide +kernel) (by decide) (by simp only [fl_row_self, upd_self]) ?_
        refine fl_Tq.stp (pc' := 181) (lv' := [some (.inr (.inr (.inl (76, 277)))), some (.inl ((f 280 5) - (f 280 14))), some (.inl (0 : Int32)), none]) (st' := [.inr (.inr (.inl (76, 277))), .inl (r_goMeasure_j144_0 f)]) (m' := (fl_row (r_goMeasure_f17 f ((f 280 2).toInt.toNat)) 280 (upd (upd ((r_goMeasure_f17 f ((f 280 2).toInt.toNat)) 280) 14 (f 280 5)) 9 (r_goMeasure_j144_0 f)), l)) rfl rfl (fl_bo rfl) rfl ?_
        refine fl_Tq.cB (c := (19 : Int32)) rfl (by decide +kernel) (fl_bo rfl) ?_
        refine fl_Tq.cal rfl rfl (fl_bo rfl) rfl ?_
        refine t2_its (W := 19) (v := f 280 53) (by decide +kernel) (by decide) (by simp only [fl_row_self, upd_ne (by decide : 53 ≠ 9), upd_ne (by decide : 53 ≠ 14), r_goMeasure_f17_w (k := (f 280 2).toInt.toNat) (w := 53) (fun j hj => by omega) (fun j hj => by omega) (fun j hj => by omega) (fun j hj => by omega)]) ?_
        show fl_Tq _ 225 186 [some (.inr (.inr (.inl (76, 277)))), some (.inl ((f 280 5) - (f 280 14))), some (.inl (0 : Int32)), none] [.inl (f 280 53), .inl (r_goMeasure_j144_0 f)] (fl_row (r_goMeasure_f17 f ((f 280 2).toInt.toNat)) 280 (upd (upd ((r_goMeasure_f17 f ((f 280 2).toInt.toNat)) 280) 14 (f 280 5)) 9 (r_goMeasure_j144_0 f)), l) _
        refine fl_Tq.jt rfl (fl_bo rfl) (c2_ne_t h2) rfl ?_
        exact hJ
      · refine fl_Tq.jt rfl (fl_bo rfl) (c2_ge_t h4) rfl ?_
        exact hJ
    refine hj128 ?_
    show fl_Tq _ 225 200 [some (.inr (.inr (.inl (76, 277)))), some (.inl ((f 280 5) - (f 280 14))), some (.inl (0 : Int32)), none] [] (fl_row (r_goMeasure_f17 f ((f 280 2).toInt.toNat)) 280 (upd (upd ((r_goMeasure_f17 f ((f 280 2).toInt.toNat)) 280) 14 (f 280 5)) 9 (r_goMeasure_j144_0 f)), l) _
    refine fl_Tq.stp (pc' := 201) (lv' := [some (.inr (.inr (.inl (76, 277)))), some (.inl ((f 280 5) - (f 280 14))), some (.inl (0 : Int32)), none]) (st' := [.inr (.inr (.inl (76, 277)))]) (m' := (fl_row (r_goMeasure_f17 f ((f 280 2).toInt.toNat)) 280 (upd (upd ((r_goMeasure_f17 f ((f 280 2).toInt.toNat)) 280) 14 (f 280 5)) 9 (r_goMeasure_j144_0 f)), l)) rfl rfl (fl_bo rfl) rfl ?_
    refine fl_Tq.cal rfl rfl (fl_bo rfl) rfl ?_
    refine r_isLive_q  ?_
    show fl_Tq _ 225 204 [some (.inr (.inr (.inl (76, 277)))), some (.inl ((f 280 5) - (f 280 14))), some (.inl (0 : Int32)), none] [.inl (r_isLive_v (fl_row (r_goMeasure_f17 f ((f 280 2).toInt.toNat)) 280 (upd (upd ((r_goMeasure_f17 f ((f 280 2).toInt.toNat)) 280) 14 (f 280 5)) 9 (r_goMeasure_j144_0 f))))] (fl_row (r_goMeasure_f17 f ((f 280 2).toInt.toNat)) 280 (upd (upd ((r_goMeasure_f17 f ((f 280 2).toInt.toNat)) 280) 14 (f 280 5)) 9 (r_goMeasure_j144_0 f)), l) _
    have hj129 : fl_Tq (pw_P L xs) 225 217 [some (.inr (.inr (.inl (76, 277)))), some (.inl ((f 280 5) - (f 280 14))), some (.inl (0 : Int32)), none] [] (fl_row (r_goMeasure_f17 f ((f 280 2).toInt.toNat)) 280 (upd (upd (upd ((r_goMeasure_f17 f ((f 280 2).toInt.toNat)) 280) 14 (f 280 5)) 9 (r_goMeasure_j144_0 f)) 4 (r_goMeasure_j204_1 f)), l) Q → fl_Tq (pw_P L xs) 225 204 [some (.inr (.inr (.inl (76, 277)))), some (.inl ((f 280 5) - (f 280 14))), some (.inl (0 : Int32)), none] [.inl (r_isLive_v (fl_row (r_goMeasure_f17 f ((f 280 2).toInt.toNat)) 280 (upd (upd ((r_goMeasure_f17 f ((f 280 2).toInt.toNat)) 280) 14 (f 280 5)) 9 (r_goMeasure_j144_0 f))))] (fl_row (r_goMeasure_f17 f ((f 280 2).toInt.toNat)) 280 (upd (upd ((r_goMeasure_f17 f ((f 280 2).toInt.toNat)) 280) 14 (f 280 5)) 9 (r_goMeasure_j144_0 f)), l) Q := by
      intro hJ
      by_cases h5 : (r_isLive_v (fl_row (r_goMeasure_f17 f ((f 280 2).toInt.toNat)) 280 (upd (upd ((r_goMeasure_f17 f ((f 280 2).toInt.toNat)) 280) 14 (f 280 5)) 9 (r_goMeasure_j144_0 f)))).toInt = 0
      · refine fl_Tq.zt rfl (fl_bo rfl) (c1_eq_t h5) rfl ?_
        have e0 : (fl_row (r_goMeasure_f17 f ((f 280 2).toInt.toNat)) 280 (upd (upd (upd ((r_goMeasure_f17 f ((f 280 2).toInt.toNat)) 280) 14 (f 280 5)) 9 (r_goMeasure_j144_0 f)) 4 (r_goMeasure_j204_1 f))) = fl_row (r_goMeasure_f17 f ((f 280 2).toInt.toNat)) 280 (upd (upd ((r_goMeasure_f17 f ((f 280 2).toInt.toNat)) 280) 14 (f 280 5)) 9 (r_goMeasure_j144_0 f)) := by
          simp only [r_goMeasure_j204_1, if_pos h5]
          funext q j
          simp only [fl_row, upd]
          repeat' split
          all_goals first | rfl | simp_all
        rw [e0] at hJ
        exact hJ
      · refine fl_Tq.zf rfl (fl_bo rfl) (c1_eq_f h5) rfl ?_
        refine fl_Tq.stp (pc' := 208) (lv' := [some (.inr (.inr (.inl (76, 277)))), some (.inl ((f 280 5) - (f 280 14))), some (.inl (0 : Int32)), none]) (st' := [.inr (.inr (.inl (76, 277)))]) (m' := (fl_row (r_goMeasure_f17 f ((f 280 2).toInt.toNat)) 280 (upd (upd ((r_goMeasure_f17 f ((f 280 2).toInt.toNat)) 280) 14 (f 280 5)) 9 (r_goMeasure_j144_0 f)), l)) rfl rfl (fl_bo rfl) rfl ?_
        refine fl_Tq.stp (pc' := 211) (lv' := [some (.inr (.inr (.inl (76, 277)))), some (.inl ((f 280 5) - (f 280 14))), some (.inl (0 : Int32)), none]) (st' := [.inr (.inr (.inl (79, 280)))]) (m' := (fl_row (r_goMeasure_f17 f ((f 280 2).toInt.toNat)) 280 (upd (upd ((r_goMeasure_f17 f ((f 280 2).toInt.toNat)) 280) 14 (f 280 5)) 9 (r_goMeasure_j144_0 f)), l)) rfl rfl (fl_bo rfl) rfl ?_
        refine fl_Tq.cI (c := (4 : Int32)) rfl (by decide +kernel) (fl_bo rfl) ?_
        refine fl_Tq.stp (pc' := 213) (lv' := [some (.inr (.inr (.inl (76, 277)))), some (.inl ((f 280 5) - (f 280 14))), some (.inl (0 : Int32)), none]) (st' := [.inr (.inr (.inl (76, 277))), .inl (4 : Int32), .inr (.inr (.inl (79, 280)))]) (m' := (fl_row (r_goMeasure_f17 f ((f 280 2).toInt.toNat)) 280 (upd (upd ((r_goMeasure_f17 f ((f 280 2).toInt.toNat)) 280) 14 (f 280 5)) 9 (r_goMeasure_j144_0 f)), l)) rfl rfl (fl_bo rfl) rfl ?_
        refine fl_Tq.cal rfl rfl (fl_bo rfl) rfl ?_
        refine r_pack_q (by simp only [fl_row_self, upd_ne (by decide : 2 ≠ 9), upd_ne (by decide : 2 ≠ 14), r_goMeasure_f17_w (k := (f 280 2).toInt.toNat) (w := 2) (fun j hj => by omega) (fun j hj => by omega) (fun j hj => by omega) (fun j hj => by omega)]; exact hn) (fun j => by simp only [fl_row_ne (by decide : 279 ≠ 280), r_goMeasure_f17_fr (k := (f 280 2).toInt.toNat) (p := 279) (by decide : 279 ≠ 280)]; exact hr j) (fun C hC => by simp only [fl_row_self, upd_ne (by decide : 2 ≠ 9), upd_ne (by decide : 2 ≠ 14), r_goMeasure_f17_w (k := (f 280 2).toInt.toNat) (w := 2) (fun j hj => by omega) (fun j hj => by omega) (fun j hj => by omega) (fun j hj => by omega), upd_ne (by omega : 444 + 61 * C + 0 ≠ 9), upd_ne (by omega : 444 + 61 * C + 0 ≠ 14), r_goMeasure_f17_w (k := (f 280 2).toInt.toNat) (w := 444 + 61 * C + 0) (fun j hj => by omega) (fun j hj => by omega) (fun j hj => by omega) (fun j hj => by omega), upd_ne (by omega : 444 + 61 * C + 1 ≠ 9), upd_ne (by omega : 444 + 61 * C + 1 ≠ 14), r_goMeasure_f17_w (k := (f 280 2).toInt.toNat) (w := 444 + 61 * C + 1) (fun j hj => by omega) (fun j hj => by omega) (fun j hj => by omega) (fun j hj => by omega)] at hC; unfold t2_ck; simp only [fl_row_self, upd_ne (by decide : 2 ≠ 9), upd_ne (by decide : 2 ≠ 14), r_goMeasure_f17_w (k := (f 280 2).toInt.toNat) (w := 2) (fun j hj => by omega) (fun j hj => by omega) (fun j hj => by omega) (fun j hj => by omega), upd_ne (by omega : 444 + 61 * C + 0 ≠ 9), upd_ne (by omega : 444 + 61 * C + 0 ≠ 14), r_goMeasure_f17_w (k := (f 280 2).toInt.toNat) (w := 444 + 61 * C + 0) (fun j hj => by omega) (fun j hj => by omega) (fun j hj => by omega) (fun j hj => by omega), upd_ne (by omega : 444 + 61 * C + 1 ≠ 9), upd_ne (by omega : 444 + 61 * C + 1 ≠ 14), r_goMeasure_f17_w (k := (f 280 2).toInt.toNat) (w := 444 + 61 * C + 1) (fun j hj => by omega) (fun j hj => by omega) (fun j hj => by omega) (fun j hj => by omega)]; exact hk C hC) ?_
        show fl_Tq _ 225 216 [some (.inr (.inr (.inl (76, 277)))), some (.inl ((f 280 5) - (f 280 14))), some (.inl (0 : Int32)), none] [.inl (r_pack_v (fl_row (r_goMeasure_f17 f ((f 280 2).toInt.toNat)) 280 (upd (upd ((r_goMeasure_f17 f ((f 280 2).toInt.toNat)) 280) 14 (f 280 5)) 9 (r_goMeasure_j144_0 f)))), .inl (4 : Int32), .inr (.inr (.inl (79, 280)))] (fl_row (r_goMeasure_f17 f ((f 280 2).toInt.toNat)) 280 (upd (upd ((r_goMeasure_f17 f ((f 280 2).toInt.toNat)) 280) 14 (f 280 5)) 9 (r_goMeasure_j144_0 f)), l) _
        refine fl_Tq.svV (p := 280) (τ := 79) (n := 29780) (z := (0, 0, 0)) (k := 4) (m' := (fl_row (r_goMeasure_f17 f ((f 280 2).toInt.toNat)) 280 (upd (upd (upd ((r_goMeasure_f17 f ((f 280 2).toInt.toNat)) 280) 14 (f 280 5)) 9 (r_goMeasure_j144_0 f)) 4 (r_pack_v (fl_row (r_goMeasure_f17 f ((f 280 2).toInt.toNat)) 280 (upd (upd ((r_goMeasure_f17 f ((f 280 2).toInt.toNat)) 280) 14 (f 280 5)) 9 (r_goMeasure_j144_0 f))))), l)) rfl (fl_bo rfl) rfl (by decide +kernel) (by decide) (t2_upr) ?_
        have e0 : (fl_row (r_goMeasure_f17 f ((f 280 2).toInt.toNat)) 280 (upd (upd (upd ((r_goMeasure_f17 f ((f 280 2).toInt.toNat)) 280) 14 (f 280 5)) 9 (r_goMeasure_j144_0 f)) 4 (r_goMeasure_j204_1 f))) = fl_row (r_goMeasure_f17 f ((f 280 2).toInt.toNat)) 280 (upd (upd (upd ((r_goMeasure_f17 f ((f 280 2).toInt.toNat)) 280) 14 (f 280 5)) 9 (r_goMeasure_j144_0 f)) 4 (r_pack_v (fl_row (r_goMeasure_f17 f ((f 280 2).toInt.toNat)) 280 (upd (upd ((r_goMeasure_f17 f ((f 280 2).toInt.toNat)) 280) 14 (f 280 5)) 9 (r_goMeasure_j144_0 f))))) := by
          simp only [r_goMeasure_j204_1, if_neg h5]
        rw [e0] at hJ
        exact hJ
    refine hj129 ?_
    show fl_Tq _ 225 217 [some (.inr (.inr (.inl (76, 277)))), some (.inl ((f 280 5) - (f 280 14))), some (.inl (0 : Int32)), none] [] (fl_row (r_goMeasure_f17 f ((f 280 2).toInt.toNat)) 280 (upd (upd (upd ((r_goMeasure_f17 f ((f 280 2).toInt.toNat)) 280) 14 (f 280 5)) 9 (r_goMeasure_j144_0 f)) 4 (r_goMeasure_j204_1 f)), l) _
    refine fl_Tq.ret rfl rfl rfl ?_
    unfold r_goMeasure_m at k
    simp only [if_neg h2] at k
    exact k
noncomputable def r_spreadOf_a4 (f : t2_F) : Nat → Int32
  | 0 => (0 : Int32)
  | k4 + 1 => if (r_spreadOf_a4 f k4).toInt < (r_partOf_v f (Int32.ofNat k4) k4).toInt then r_partOf_v f (Int32.ofNat k4) k4 else r_spreadOf_a4 f k4
noncomputable def r_spreadOf_j45_0 (f : t2_F)  : Int32 := if (f 280 2).toInt = 0 then (0 : Int32) else (r_spreadOf_a4 f ((f 280 2).toInt.toNat)) - (r_leastPart_v f)
noncomputable def r_spreadOf_v (f : t2_F) : Int32 := r_spreadOf_j45_0 f
theorem r_spreadOf_q {L : Nat} {xs : Nat → Int32} {f : t2_F} {l : t2_L} {Q : Option fl_V → fl_M → Prop}  (hn : 0 ≤ (f 280 2).toInt ∧ (f 280 2).toInt ≤ 16) (hk : ∀ C : Nat, (C : Int) < (f 280 2).toInt → t2_ck f C) (k : Q (some (.inl (r_spreadOf_v f))) (f, l)) : fl_Tq (pw_P L xs) 205 0 (fl_args (am_mxl (pw_P L xs) 205) [.inr (.inr (.inl (76, 277)))]) [] (f, l) Q := by
  refine fl_Tq.cI (c := (0 : Int32)) rfl (by decide +kernel) (fl_bo rfl) ?_
  refine fl_Tq.stp (pc' := 2) (lv' := [some (.inr (.inr (.inl (76, 277)))), some (.inl (0 : Int32)), none]) (st' := []) (m' := (f, l)) rfl rfl (fl_bo rfl) rfl ?_
  refine fl_Tq.cI (c := (0 : Int32)) rfl (by decide +kernel) (fl_bo rfl) ?_
  refine fl_Tq.stp (pc' := 4) (lv' := [some (.inr (.inr (.inl (76, 277)))), some (.inl (0 : Int32)), some (.inl (0 : Int32))]) (st' := []) (m' := (f, l)) rfl rfl (fl_bo rfl) rfl ?_
  have hs4 : ∀ k4 : Nat, k4 < (f 280 2).toInt.toNat → fl_Tq (pw_P L xs) 205 4 [some (.inr (.inr (.inl (76, 277)))), some (.inl (r_spreadOf_a4 f (k4 + 1))), some (.inl (Int32.ofNat (k4 + 1)))] [] (f, l) Q → fl_Tq (pw_P L xs) 205 4 [some (.inr (.inr (.inl (76, 277)))), some (.inl (r_spreadOf_a4 f k4)), some (.inl (Int32.ofNat k4))] [] (f, l) Q := by
    intro k4 hk4 hS
    refine fl_Tq.stp (pc' := 5) (lv' := [some (.inr (.inr (.inl (76, 277)))), some (.inl (r_spreadOf_a4 f k4)), some (.inl (Int32.ofNat k4))]) (st' := [.inl (Int32.ofNat k4)]) (m' := (f, l)) rfl rfl (fl_bo rfl) rfl ?_
    refine fl_Tq.stp (pc' := 6) (lv' := [some (.inr (.inr (.inl (76, 277)))), some (.inl (r_spreadOf_a4 f k4)), some (.inl (Int32.ofNat k4))]) (st' := [.inr (.inr (.inl (76, 277))), .inl (Int32.ofNat k4)]) (m' := (f, l)) rfl rfl (fl_bo rfl) rfl ?_
    refine fl_Tq.stp (pc' := 9) (lv' := [some (.inr (.inr (.inl (76, 277)))), some (.inl (r_spreadOf_a4 f k4)), some (.inl (Int32.ofNat k4))]) (st' := [.inr (.inr (.inl (79, 280))), .inl (Int32.ofNat k4)]) (m' := (f, l)) rfl rfl (fl_bo rfl) rfl ?_
    refine fl_Tq.cI (c := (2 : Int32)) rfl (by decide +kernel) (fl_bo rfl) ?_
    refine fl_Tq.ldV (p := 280) (τ := 79) (n := 29780) (z := (0, 0, 0)) (k := 2) (v := f 280 2) rfl (fl_bo rfl) rfl (by decide +kernel) (by decide) rfl ?_
    refine fl_Tq.jf rfl (fl_bo rfl) (c2_ge_f (t2_lk hk4 (t2_nn hn.1))) rfl ?_
    refine fl_Tq.stp (pc' := 15) (lv' := [some (.inr (.inr (.inl (76, 277)))), some (.inl (r_spreadOf_a4 f k4)), some (.inl (Int32.ofNat k4))]) (st' := [.inr (.inr (.inl (76, 277)))]) (m' := (f, l)) rfl rfl (fl_bo rfl) rfl ?_
    refine fl_Tq.stp (pc' := 16) (lv' := [some (.inr (.inr (.inl (76, 277)))), some (.inl (r_spreadOf_a4 f k4)), some (.inl (Int32.ofNat k4))]) (st' := [.inl (Int32.ofNat k4), .inr (.inr (.inl (76, 277)))]) (m' := (f, l)) rfl rfl (fl_bo rfl) rfl ?_
    refine fl_Tq.cal rfl rfl (fl_bo rfl) rfl ?_
    refine r_partOf_q (at_ofN (by omega)) (by omega) (hk k4 (by omega)) ?_
    show fl_Tq _ 205 19 [some (.inr (.inr (.inl (76, 277)))), some (.inl (r_spreadOf_a4 f k4)), some (.inl (Int32.ofNat k4))] [.inl (r_partOf_v f (Int32.ofNat k4) k4)] (f, l) _
    refine fl_Tq.stp (pc' := 20) (lv' := [some (.inr (.inr (.inl (76, 277)))), some (.inl (r_spreadOf_a4 f k4)), some (.inl (Int32.ofNat k4))]) (st' := [.inl (r_spreadOf_a4 f k4), .inl (r_partOf_v f (Int32.ofNat k4) k4)]) (m' := (f, l)) rfl rfl (fl_bo rfl) rfl ?_
    have hj130 : fl_Tq (pw_P L xs) 205 32 [some (.inr (.inr (.inl (76, 277)))), some (.inl (r_spreadOf_a4 f k4)), some (.inl (Int32.ofNat k4))] [.inl (if (r_spreadOf_a4 f k4).toInt < (r_partOf_v f (Int32.ofNat k4) k4).toInt then r_partOf_v f (Int32.ofNat k4) k4 else r_spreadOf_a4 f k4)] (f, l) Q → fl_Tq (pw_P L xs) 205 20 [some (.inr (.inr (.inl (76, 277)))), some (.inl (r_spreadOf_a4 f k4)), some (.inl (Int32.ofNat k4))] [.inl (r_spreadOf_a4 f k4), .inl (r_partOf_v f (Int32.ofNat k4) k4)] (f, l) Q := by
      intro hJ
      by_cases h1 : (r_spreadOf_a4 f k4).toInt < (r_partOf_v f (Int32.ofNat k4) k4).toInt
      · refine fl_Tq.jf rfl (fl_bo rfl) (c2_le_f h1) rfl ?_
        refine fl_Tq.stp (pc' := 24) (lv' := [some (.inr (.inr (.inl (76, 277)))), some (.inl (r_spreadOf_a4 f k4)), some (.inl (Int32.ofNat k4))]) (st' := [.inr (.inr (.inl (76, 277)))]) (m' := (f, l)) rfl rfl (fl_bo rfl) rfl ?_
        refine fl_Tq.stp (pc' := 25) (lv' := [some (.inr (.inr (.inl (76, 277)))), some (.inl (r_spreadOf_a4 f k4)), some (.inl (Int32.ofNat k4))]) (st' := [.inl (Int32.ofNat k4), .inr (.inr (.inl (76, 277)))]) (m' := (f, l)) rfl rfl (fl_bo rfl) rfl ?_
        refine fl_Tq.cal rfl rfl (fl_bo rfl) rfl ?_
        refine r_partOf_q (at_ofN (by omega)) (by omega) (hk k4 (by omega)) ?_
        show fl_Tq _ 205 28 [some (.inr (.inr (.inl (76, 277)))), some (.inl (r_spreadOf_a4 f k4)), some (.inl (Int32.ofNat k4))] [.inl (r_partOf_v f (Int32.ofNat k4) k4)] (f, l) _
        refine fl_Tq.stp (pc' := 32) (lv' := [some (.inr (.inr (.inl (76, 277)))), some (.inl (r_spreadOf_a4 f k4)), some (.inl (Int32.ofNat k4))]) (st' := [.inl (r_partOf_v f (Int32.ofNat k4) k4)]) (m' := (f, l)) rfl rfl (fl_bo rfl) rfl ?_
        have e0 : (if (r_spreadOf_a4 f k4).toInt < (r_partOf_v f (Int32.ofNat k4) k4).toInt then r_partOf_v f (Int32.ofNat k4) k4 else r_spreadOf_a4 f k4) = r_partOf_v f (Int32.ofNat k4) k4 := by simp only [if_pos h1]
        rw [e0] at hJ
        exact hJ
      · refine fl_Tq.jt rfl (fl_bo rfl) (c2_le_t h1) rfl ?_
        refine fl_Tq.stp (pc' := 32) (lv' := [some (.inr (.inr (.inl (76, 277)))), some (.inl (r_spreadOf_a4 f k4)), some (.inl (Int32.ofNat k4))]) (st' := [.inl (r_spreadOf_a4 f k4)]) (m' := (f, l)) rfl rfl (fl_bo rfl) rfl ?_
        have e0 : (if (r_spreadOf_a4 f k4).toInt < (r_partOf_v f (Int32.ofNat k4) k4).toInt then r_partOf_v f (Int32.ofNat k4) k4 else r_spreadOf_a4 f k4) = r_spreadOf_a4 f k4 := by simp only [if_neg h1]
        rw [e0] at hJ
        exact hJ
    refine hj130 ?_
    show fl_Tq _ 205 32 [some (.inr (.inr (.inl (76, 277)))), some (.inl (r_spreadOf_a4 f k4)), some (.inl (Int32.ofNat k4))] [.inl (if (r_spreadOf_a4 f k4).toInt < (r_partOf_v f (Int32.ofNat k4) k4).toInt then r_partOf_v f (Int32.ofNat k4) k4 else r_spreadOf_a4 f k4)] (f, l) _
    refine fl_Tq.stp (pc' := 33) (lv' := [some (.inr (.inr (.inl (76, 277)))), some (.inl (if (r_spreadOf_a4 f k4).toInt < (r_partOf_v f (Int32.ofNat k4) k4).toInt then r_partOf_v f (Int32.ofNat k4) k4 else r_spreadOf_a4 f k4)), some (.inl (Int32.ofNat k4))]) (st' := []) (m' := (f, l)) rfl rfl (fl_bo rfl) rfl ?_
    refine fl_Tq.stp (pc' := 36) (lv' := [some (.inr (.inr (.inl (76, 277)))), some (.inl (if (r_spreadOf_a4 f k4).toInt < (r_partOf_v f (Int32.ofNat k4) k4).toInt then r_partOf_v f (Int32.ofNat k4) k4 else r_spreadOf_a4 f k4)), some (.inl ((Int32.ofNat k4) + (1 : Int32)))]) (st' := []) (m' := (f, l)) rfl rfl (fl_bo rfl) rfl ?_
    refine fl_Tq.stp (pc' := 4) (lv' := [some (.inr (.inr (.inl (76, 277)))), some (.inl (if (r_spreadOf_a4 f k4).toInt < (r_partOf_v f (Int32.ofNat k4) k4).toInt then r_partOf_v f (Int32.ofNat k4) k4 else r_spreadOf_a4 f k4)), some (.inl ((Int32.ofNat k4) + (1 : Int32)))]) (st' := []) (m' := (f, l)) rfl rfl (fl_bo rfl) rfl ?_
    have ea : r_spreadOf_a4 f (k4 + 1) = if (r_spreadOf_a4 f k4).toInt < (r_partOf_v f (Int32.ofNat k4) k4).toInt then r_partOf_v f (Int32.ofNat k4) k4 else r_spreadOf_a4 f k4 := by
      show (if (r_spreadOf_a4 f k4).toInt < (r_partOf_v f (Int32.ofNat k4) k4).toInt then r_partOf_v f (Int32.ofNat k4) k4 else r_spreadOf_a4 f k4) = _
      rfl
    rw [ea, ← t2_k1] at hS
    exact hS
  refine t2_for (S := fun k4 => fl_Tq (pw_P L xs) 205 4 [some (.inr (.inr (.inl (76, 277)))), some (.inl (r_spreadOf_a4 f k4)), some (.inl (Int32.ofNat k4))] [] (f, l) Q) hs4 ?_
  show fl_Tq (pw_P L xs) 205 4 [some (.inr (.inr (.inl (76, 277)))), some (.inl (r_spreadOf_a4 f ((f 280 2).toInt.toNat))), some (.inl (Int32.ofNat ((f 280 2).toInt.toNat)))] [] (f, l) _
  refine fl_Tq.stp (pc' := 5) (lv' := [some (.inr (.inr (.inl (76, 277)))), some (.inl (r_spreadOf_a4 f ((f 280 2).toInt.toNat))), some (.inl (Int32.ofNat ((f 280 2).toInt.toNat)))]) (st' := [.inl (Int32.ofNat ((f 280 2).toInt.toNat))]) (m' := (f, l)) rfl rfl (fl_bo rfl) rfl ?_
  refine fl_Tq.stp (pc' := 6) (lv' := [some (.inr (.inr (.inl (76, 277)))), some (.inl (r_spreadOf_a4 f ((f 280 2).toInt.toNat))), some (.inl (Int32.ofNat ((f 280 2).toInt.toNat)))]) (st' := [.inr (.inr (.inl (76, 277))), .inl (Int32.ofNat ((f 280 2).toInt.toNat))]) (m' := (f, l)) rfl rfl (fl_bo rfl) rfl ?_
  refine fl_Tq.stp (pc' := 9) (lv' := [some (.inr (.inr (.inl (76, 277)))), some (.inl (r_spreadOf_a4 f ((f 280 2).toInt.toNat))), some (.inl (Int32.ofNat ((f 280 2).toInt.toNat)))]) (st' := [.inr (.inr (.inl (79, 280))), .inl (Int32.ofNat ((f 280 2).toInt.toNat))]) (m' := (f, l)) rfl rfl (fl_bo rfl) rfl ?_
  refine fl_Tq.cI (c := (2 : Int32)) rfl (by decide +kernel) (fl_bo rfl) ?_
  refine fl_Tq.ldV (p := 280) (τ := 79) (n := 29780) (z := (0, 0, 0)) (k := 2) (v := f 280 2) rfl (fl_bo rfl) rfl (by decide +kernel) (by decide) rfl ?_
  refine fl_Tq.jt rfl (fl_bo rfl) (c2_ge_t (t2_ln (t2_nn hn.1))) rfl ?_
  refine fl_Tq.stp (pc' := 40) (lv' := [some (.inr (.inr (.inl (76, 277)))), some (.inl (r_spreadOf_a4 f ((f 280 2).toInt.toNat))), some (.inl (Int32.ofNat ((f 280 2).toInt.toNat)))]) (st' := [.inr (.inr (.inl (76, 277)))]) (m' := (f, l)) rfl rfl (fl_bo rfl) rfl ?_
  refine fl_Tq.stp (pc' := 43) (lv' := [some (.inr (.inr (.inl (76, 277)))), some (.inl (r_spreadOf_a4 f ((f 280 2).toInt.toNat))), some (.inl (Int32.ofNat ((f 280 2).toInt.toNat)))]) (st' := [.inr (.inr (.inl (79, 280)))]) (m' := (f, l)) rfl rfl (fl_bo rfl) rfl ?_
  refine fl_Tq.cI (c := (2 : Int32)) rfl (by decide +kernel) (fl_bo rfl) ?_
  refine fl_Tq.ldV (p := 280) (τ := 79) (n := 29780) (z := (0, 0, 0)) (k := 2) (v := f 280 2) rfl (fl_bo rfl) rfl (by decide +kernel) (by decide) rfl ?_
  have hj131 : fl_Tq (pw_P L xs) 205 58 [some (.inr (.inr (.inl (76, 277)))), some (.inl (r_spreadOf_a4 f ((f 280 2).toInt.toNat))), some (.inl (Int32.ofNat ((f 280 2).toInt.toNat)))] [.inl (r_spreadOf_j45_0 f)] (f, l) Q → fl_Tq (pw_P L xs) 205 45 [some (.inr (.inr (.inl (76, 277)))), some (.inl (r_spreadOf_a4 f ((f 280 2).toInt.toNat))), some (.inl (Int32.ofNat ((f 280 2).toInt.toNat)))] [.inl (f 280 2)] (f, l) Q := by
    intro hJ
    by_cases h2 : (f 280 2).toInt = 0
    · refine fl_Tq.zf rfl (fl_bo rfl) (c1_ne_f h2) rfl ?_
      refine fl_Tq.cI (c := (0 : Int32)) rfl (by decide +kernel) (fl_bo rfl) ?_
      refine fl_Tq.stp (pc' := 58) (lv' := [some (.inr (.inr (.inl (76, 277)))), some (.inl (r_spreadOf_a4 f ((f 280 2).toInt.toNat))), some (.inl (Int32.ofNat ((f 280 2).toInt.toNat)))]) (st' := [.inl (0 : Int32)]) (m' := (f, l)) rfl rfl (fl_bo rfl) rfl ?_
      have e0 : (r_spreadOf_j45_0 f) = (0 : Int32) := by simp only [r_spreadOf_j45_0, if_pos h2]
      rw [e0] at hJ
      exact hJ
    · refine fl_Tq.zt rfl (fl_bo rfl) (c1_ne_t h2) rfl ?_
      refine fl_Tq.stp (pc' := 53) (lv' := [some (.inr (.inr (.inl (76, 277)))), some (.inl (r_spreadOf_a4 f ((f 280 2).toInt.toNat))), some (.inl (Int32.ofNat ((f 280 2).toInt.toNat)))]) (st' := [.inl (r_spreadOf_a4 f ((f 280 2).toInt.toNat))]) (m' := (f, l)) rfl rfl (fl_bo rfl) rfl ?_
      refine fl_Tq.stp (pc' := 54) (lv' := [some (.inr (.inr (.inl (76, 277)))), some (.inl (r_spreadOf_a4 f ((f 280 2).toInt.toNat))), some (.inl (Int32.ofNat ((f 280 2).toInt.toNat)))]) (st' := [.inr (.inr (.inl (76, 277))), .inl (r_spreadOf_a4 f ((f 280 2).toInt.toNat))]) (m' := (f, l)) rfl rfl (fl_bo rfl) rfl ?_
      refine fl_Tq.cal rfl rfl (fl_bo rfl) rfl ?_
      refine r_leastPart_q hn hk ?_
      show fl_Tq _ 205 57 [some (.inr (.inr (.inl (76, 277)))), some (.inl (r_spreadOf_a4 f ((f 280 2).toInt.toNat))), some (.inl (Int32.ofNat ((f 280 2).toInt.toNat)))] [.inl (r_leastPart_v f), .inl (r_spreadOf_a4 f ((f 280 2).toInt.toNat))] (f, l) _
      refine fl_Tq.stp (pc' := 58) (lv' := [some (.inr (.inr (.inl (76, 277)))), some (.inl (r_spreadOf_a4 f ((f 280 2).toInt.toNat))), some (.inl (Int32.ofNat ((f 280 2).toInt.toNat)))]) (st' := [.inl ((r_spreadOf_a4 f ((f 280 2).toInt.toNat)) - (r_leastPart_v f))]) (m' := (f, l)) rfl rfl (fl_bo rfl) rfl ?_
      have e0 : (r_spreadOf_j45_0 f) = (r_spreadOf_a4 f ((f 280 2).toInt.toNat)) - (r_leastPart_v f) := by simp only [r_spreadOf_j45_0, if_neg h2]
      rw [e0] at hJ
      exact hJ
  refine hj131 ?_
  show fl_Tq _ 205 58 [some (.inr (.inr (.inl (76, 277)))), some (.inl (r_spreadOf_a4 f ((f 280 2).toInt.toNat))), some (.inl (Int32.ofNat ((f 280 2).toInt.toNat)))] [.inl (r_spreadOf_j45_0 f)] (f, l) _
  exact fl_Tq.ret rfl rfl rfl k
noncomputable def r_goTaper_a4 (f : t2_F) : Nat → Int32
  | 0 => (0 : Int32)
  | k4 + 1 => if (r_goTaper_a4 f k4).toInt = 0 then (if (r_voltsOf_v f (Int32.ofNat k4) k4).toInt < (f 280 57).toInt then (0 : Int32) else (1 : Int32)) else (1 : Int32)
noncomputable def r_goTaper_j99_0 (f : t2_F)  : Int32 := if (((f 280 54) * (9 : Int32)) / (10 : Int32)).toInt < (100 : Int32).toInt then (0 : Int32) else ((f 280 54) * (9 : Int32)) / (10 : Int32)
noncomputable def r_goTaper_m (f : t2_F) : t2_F := if (r_goTaper_a4 f ((f 280 2).toInt.toNat)).toInt = 0 then f else (if (f 280 3).toInt = (2 : Int32).toInt then (if (f 280 57).toInt = 0 then f else (if 0 < (f 280 54).toInt then fl_row f 280 (upd (f 280) 54 (r_goTaper_j99_0 f)) else f)) else f)
theorem r_goTaper_fr {f : t2_F}  {p : Nat}  (e280 : p ≠ 280) : r_goTaper_m f p = f p := by
  unfold r_goTaper_m
  repeat' split
  all_goals first | rfl | simp only [fl_row_ne e280]
theorem r_goTaper_w {f : t2_F}  {w : Nat} (e0 : w ≠ 54) : r_goTaper_m f 280 w = f 280 w := by
  unfold r_goTaper_m
  repeat' split
  all_goals first | rfl | simp only [fl_row_self, upd_ne e0]
theorem r_goTaper_q {L : Nat} {xs : Nat → Int32} {f : t2_F} {l : t2_L} {Q : Option fl_V → fl_M → Prop}  (hn : 0 ≤ (f 280 2).toInt ∧ (f 280 2).toInt ≤ 16) (hr : t2_RS f) (hk : ∀ C : Nat, (C : Int) < (f 280 2).toInt → t2_ck f C) (k : Q none (r_goTaper_m f, l)) : fl_Tq (pw_P L xs) 226 0 (fl_args (am_mxl (pw_P L xs) 226) [.inr (.inr (.inl (76, 277)))]) [] (f, l) Q := by
  refine fl_Tq.cI (c := (0 : Int32)) rfl (by decide +kernel) (fl_bo rfl) ?_
  refine fl_Tq.stp (pc' := 2) (lv' := [some (.inr (.inr (.inl (76, 277)))), some (.inl (0 : Int32)), none]) (st' := []) (m' := (f, l)) rfl rfl (fl_bo rfl) rfl ?_
  refine fl_Tq.cI (c := (0 : Int32)) rfl (by decide +kernel) (fl_bo rfl) ?_
  refine fl_Tq.stp (pc' := 4) (lv' := [some (.inr (.inr (.inl (76, 277)))), some (.inl (0 : Int32)), some (.inl (0 : Int32))]) (st' := []) (m' := (f, l)) rfl rfl (fl_bo rfl) rfl ?_
  have hs4 : ∀ k4 : Nat, k4 < (f 280 2).toInt.toNat → fl_Tq (pw_P L xs) 226 4 [some (.inr (.inr (.inl (76, 277)))), some (.inl (r_goTaper_a4 f (k4 + 1))), some (.inl (Int32.ofNat (k4 + 1)))] [] (f, l) Q → fl_Tq (pw_P L xs) 226 4 [some (.inr (.inr (.inl (76, 277)))), some (.inl (r_goTaper_a4 f k4)), some (.inl (Int32.ofNat k4))] [] (f, l) Q := by
    intro k4 hk4 hS
    refine fl_Tq.stp (pc' := 5) (lv' := [some (.inr (.inr (.inl (76, 277)))), some (.inl (r_goTaper_a4 f k4)), some (.inl (Int32.ofNat k4))]) (st' := [.inl (Int32.ofNat k4)]) (m' := (f, l)) rfl rfl (fl_bo rfl) rfl ?_
    refine fl_Tq.stp (pc' := 6) (lv' := [some (.inr (.inr (.inl (76, 277)))), some (.inl (r_goTaper_a4 f k4)), some (.inl (Int32.ofNat k4))]) (st' := [.inr (.inr (.inl (76, 277))), .inl (Int32.ofNat k4)]) (m' := (f, l)) rfl rfl (fl_bo rfl) rfl ?_
    refine fl_Tq.stp (pc' := 9) (lv' := [some (.inr (.inr (.inl (76, 277)))), some (.inl (r_goTaper_a4 f k4)), some (.inl (Int32.ofNat k4))]) (st' := [.inr (.inr (.inl (79, 280))), .inl (Int32.ofNat k4)]) (m' := (f, l)) rfl rfl (fl_bo rfl) rfl ?_
    refine fl_Tq.cI (c := (2 : Int32)) rfl (by decide +kernel) (fl_bo rfl) ?_
    refine fl_Tq.ldV (p := 280) (τ := 79) (n := 29780) (z := (0, 0, 0)) (k := 2) (v := f 280 2) rfl (fl_bo rfl) rfl (by decide +kernel) (by decide) rfl ?_
    refine fl_Tq.jf rfl (fl_bo rfl) (c2_ge_f (t2_lk hk4 (t2_nn hn.1))) rfl ?_
    refine fl_Tq.stp (pc' := 15) (lv' := [some (.inr (.inr (.inl (76, 277)))), some (.inl (r_goTaper_a4 f k4)), some (.inl (Int32.ofNat k4))]) (st' := [.inl (r_goTaper_a4 f k4)]) (m' := (f, l)) rfl rfl (fl_bo rfl) rfl ?_
    have hj132 : fl_Tq (pw_P L xs) 226 37 [some (.inr (.inr (.inl (76, 277)))), some (.inl (r_goTaper_a4 f k4)), some (.inl (Int32.ofNat k4))] [.inl (if (r_goTaper_a4 f k4).toInt = 0 then (if (r_voltsOf_v f (Int32.ofNat k4) k4).toInt < (f 280 57).toInt then (0 : Int32) else (1 : Int32)) else (1 : Int32))] (f, l) Q → fl_Tq (pw_P L xs) 226 15 [some (.inr (.inr (.inl (76, 277)))), some (.inl (r_goTaper_a4 f k4)), some (.inl (Int32.ofNat k4))] [.inl (r_goTaper_a4 f k4)] (f, l) Q := by
      intro hJ
      by_cases h1 : (r_goTaper_a4 f k4).toInt = 0
      · refine fl_Tq.zf rfl (fl_bo rfl) (c1_ne_f h1) rfl ?_
        refine fl_Tq.stp (pc' := 19) (lv' := [some (.inr (.inr (.inl (76, 277)))), some (.inl (r_goTaper_a4 f k4)), some (.inl (Int32.ofNat k4))]) (st' := [.inr (.inr (.inl (76, 277)))]) (m' := (f, l)) rfl rfl (fl_bo rfl) rfl ?_
        refine fl_Tq.stp (pc' := 20) (lv' := [some (.inr (.inr (.inl (76, 277)))), some (.inl (r_goTaper_a4 f k4)), some (.inl (Int32.ofNat k4))]) (st' := [.inl (Int32.ofNat k4), .inr (.inr (.inl (76, 277)))]) (m' := (f, l)) rfl rfl (fl_bo rfl) rfl ?_
        refine fl_Tq.cal rfl rfl (fl_bo rfl) rfl ?_
        refine r_voltsOf_q (at_ofN (by omega)) (by omega) hr (hk k4 (by omega)) ?_
        show fl_Tq _ 226 23 [some (.inr (.inr (.inl (76, 277)))), some (.inl (r_goTaper_a4 f k4)), some (.inl (Int32.ofNat k4))] [.inl (r_voltsOf_v f (Int32.ofNat k4) k4)] (f, l) _
        refine fl_Tq.stp (pc' := 24) (lv' := [some (.inr (.inr (.inl (76, 277)))), some (.inl (r_goTaper_a4 f k4)), some (.inl (Int32.ofNat k4))]) (st' := [.inr (.inr (.inl (76, 277))), .inl (r_voltsOf_v f (Int32.ofNat k4) k4)]) (m' := (f, l)) rfl rfl (fl_bo rfl) rfl ?_
        refine fl_Tq.cB (c := (23 : Int32)) rfl (by decide +kernel) (fl_bo rfl) ?_
        refine fl_Tq.cal rfl rfl (fl_bo rfl) rfl ?_
        refine t2_its (W := 23) (v := f 280 57) (by decide +kernel) (by decide) rfl ?_
        show fl_Tq _ 226 29 [some (.inr (.inr (.inl (76, 277)))), some (.inl (r_goTaper_a4 f k4)), some (.inl (Int32.ofNat k4))] [.inl (f 280 57), .inl (r_voltsOf_v f (Int32.ofNat k4) k4)] (f, l) _
        by_cases h2 : (r_voltsOf_v f (Int32.ofNat k4) k4).toInt < (f 280 57).toInt
        · refine fl_Tq.jt rfl (fl_bo rfl) (c2_lt_t h2) rfl ?_
          refine fl_Tq.cI (c := (0 : Int32)) rfl (by decide +kernel) (fl_bo rfl) ?_
          have e0 : (if (r_goTaper_a4 f k4).toInt = 0 then (if (r_voltsOf_v f (Int32.ofNat k4) k4).toInt < (f 280 57).toInt then (0 : Int32) else (1 : Int32)) else (1 : Int32)) = (0 : Int32) := by simp only [if_pos h1, if_pos h2]
          rw [e0] at hJ
          exact hJ
        · refine fl_Tq.jf rfl (fl_bo rfl) (c2_lt_f h2) rfl ?_
          refine fl_Tq.cI (c := (1 : Int32)) rfl (by decide +kernel) (fl_bo rfl) ?_
          refine fl_Tq.stp (pc' := 37) (lv' := [some (.inr (.inr (.inl (76, 277)))), some (.inl (r_goTaper_a4 f k4)), some (.inl (Int32.ofNat k4))]) (st' := [.inl (1 : Int32)]) (m' := (f, l)) rfl rfl (fl_bo rfl) rfl ?_
          have e0 : (if (r_goTaper_a4 f k4).toInt = 0 then (if (r_voltsOf_v f (Int32.ofNat k4) k4).toInt < (f 280 57).toInt then (0 : Int32) else (1 : Int32)) else (1 : Int32)) = (1 : Int32) := by simp only [if_pos h1, if_neg h2]
          rw [e0] at hJ
          exact hJ
      · refine fl_Tq.zt rfl (fl_bo rfl) (c1_ne_t h1) rfl ?_
        refine fl_Tq.cI (c := (1 : Int32)) rfl (by decide +kernel) (fl_bo rfl) ?_
        refine fl_Tq.stp (pc' := 37) (lv' := [some (.inr (.inr (.inl (76, 277)))), some (.inl (r_goTaper_a4 f k4)), some (.inl (Int32.ofNat k4))]) (st' := [.inl (1 : Int32)]) (m' := (f, l)) rfl rfl (fl_bo rfl) rfl ?_
        have e0 : (if (r_goTaper_a4 f k4).toInt = 0 then (if (r_voltsOf_v f (Int32.ofNat k4) k4).toInt < (f 280 57).toInt then (0 : Int32) else (1 : Int32)) else (1 : Int32)) = (1 : Int32) := by simp only [if_neg h1]
        rw [e0] at hJ
        exact hJ
    refine hj132 ?_
    show fl_Tq _ 226 37 [some (.inr (.inr (.inl (76, 277)))), some (.inl (r_goTaper_a4 f k4)), some (.inl (Int32.ofNat k4))] [.inl (if (r_goTaper_a4 f k4).toInt = 0 then (if (r_voltsOf_v f (Int32.ofNat k4) k4).toInt < (f 280 57).toInt then (0 : Int32) else (1 : Int32)) else (1 : Int32))] (f, l) _
    refine fl_Tq.stp (pc' := 38) (lv' := [some (.inr (.inr (.inl (76, 277)))), some (.inl (if (r_goTaper_a4 f k4).toInt = 0 then (if (r_voltsOf_v f (Int32.ofNat k4) k4).toInt < (f 280 57).toInt then (0 : Int32) else (1 : Int32)) else (1 : Int32))), some (.inl (Int32.ofNat k4))]) (st' := []) (m' := (f, l)) rfl rfl (fl_bo rfl) rfl ?_
    refine fl_Tq.stp (pc' := 41) (lv' := [some (.inr (.inr (.inl (76, 277)))), some (.inl (if (r_goTaper_a4 f k4).toInt = 0 then (if (r_voltsOf_v f (Int32.ofNat k4) k4).toInt < (f 280 57).toInt then (0 : Int32) else (1 : Int32)) else (1 : Int32))), some (.inl ((Int32.ofNat k4) + (1 : Int32)))]) (st' := []) (m' := (f, l)) rfl rfl (fl_bo rfl) rfl ?_
    refine fl_Tq.stp (pc' := 4) (lv' := [some (.inr (.inr (.inl (76, 277)))), some (.inl (if (r_goTaper_a4 f k4).toInt = 0 then (if (r_voltsOf_v f (Int32.ofNat k4) k4).toInt < (f 280 57).toInt then (0 : Int32) else (1 : Int32)) else (1 : Int32))), some (.inl ((Int32.ofNat k4) + (1 : Int32)))]) (st' := []) (m' := (f, l)) rfl rfl (fl_bo rfl) rfl ?_
    have ea : r_goTaper_a4 f (k4 + 1) = if (r_goTaper_a4 f k4).toInt = 0 then (if (r_voltsOf_v f (Int32.ofNat k4) k4).toInt < (f 280 57).toInt then (0 : Int32) else (1 : Int32)) else (1 : Int32) := by
      show (if (r_goTaper_a4 f k4).toInt = 0 then (if (r_voltsOf_v f (Int32.ofNat k4) k4).toInt < (f 280 57).toInt then (0 : Int32) else (1 : Int32)) else (1 : Int32)) = _
      rfl
    rw [ea, ← t2_k1] at hS
    exact hS
  refine t2_for (S := fun k4 => fl_Tq (pw_P L xs) 226 4 [some (.inr (.inr (.inl (76, 277)))), some (.inl (r_goTaper_a4 f k4)), some (.inl (Int32.ofNat k4))] [] (f, l) Q) hs4 ?_
  show fl_Tq (pw_P L xs) 226 4 [some (.inr (.inr (.inl (76, 277)))), some (.inl (r_goTaper_a4 f ((f 280 2).toInt.toNat))), some (.inl (Int32.ofNat ((f 280 2).toInt.toNat)))] [] (f, l) _
  refine fl_Tq.stp (pc' := 5) (lv' := [some (.inr (.inr (.inl (76, 277)))), some (.inl (r_goTaper_a4 f ((f 280 2).toInt.toNat))), some (.inl (Int32.ofNat ((f 280 2).toInt.toNat)))]) (st' := [.inl (Int32.ofNat ((f 280 2).toInt.toNat))]) (m' := (f, l)) rfl rfl (fl_bo rfl) rfl ?_
  refine fl_Tq.stp (pc' := 6) (lv' := [some (.inr (.inr (.inl (76, 277)))), some (.inl (r_goTaper_a4 f ((f 280 2).toInt.toNat))), some (.inl (Int32.ofNat ((f 280 2).toInt.toNat)))]) (st' := [.inr (.inr (.inl (76, 277))), .inl (Int32.ofNat ((f 280 2).toInt.toNat))]) (m' := (f, l)) rfl rfl (fl_bo rfl) rfl ?_
  refine fl_Tq.stp (pc' := 9) (lv' := [some (.inr (.inr (.inl (76, 277)))), some (.inl (r_goTaper_a4 f ((f 280 2).toInt.toNat))), some (.inl (Int32.ofNat ((f 280 2).toInt.toNat)))]) (st' := [.inr (.inr (.inl (79, 280))), .inl (Int32.ofNat ((f 280 2).toInt.toNat))]) (m' := (f, l)) rfl rfl (fl_bo rfl) rfl ?_
  refine fl_Tq.cI (c := (2 : Int32)) rfl (by decide +kernel) (fl_bo rfl) ?_
  refine fl_Tq.ldV (p := 280) (τ := 79) (n := 29780) (z := (0, 0, 0)) (k := 2) (v := f 280 2) rfl (fl_bo rfl) rfl (by decide +kernel) (by decide) rfl ?_
  refine fl_Tq.jt rfl (fl_bo rfl) (c2_ge_t (t2_ln (t2_nn hn.1))) rfl ?_
  refine fl_Tq.stp (pc' := 45) (lv' := [some (.inr (.inr (.inl (76, 277)))), some (.inl (r_goTaper_a4 f ((f 280 2).toInt.toNat))), some (.inl (Int32.ofNat ((f 280 2).toInt.toNat)))]) (st' := [.inl (r_goTaper_a4 f ((f 280 2).toInt.toNat))]) (m' := (f, l)) rfl rfl (fl_bo rfl) rfl ?_
  by_cases h3 : (r_goTaper_a4 f ((f 280 2).toInt.toNat)).toInt = 0
  · refine fl_Tq.zt rfl (fl_bo rfl) (c1_eq_t h3) rfl ?_
    refine fl_Tq.ret rfl rfl rfl ?_
    unfold r_goTaper_m at k
    simp only [if_pos h3] at k
    exact k
  · refine fl_Tq.zf rfl (fl_bo rfl) (c1_eq_f h3) rfl ?_
    refine fl_Tq.stp (pc' := 49) (lv' := [some (.inr (.inr (.inl (76, 277)))), some (.inl (r_goTaper_a4 f ((f 280 2).toInt.toNat))), some (.inl (Int32.ofNat ((f 280 2).toInt.toNat)))]) (st' := [.inr (.inr (.inl (76, 277)))]) (m' := (f, l)) rfl rfl (fl_bo rfl) rfl ?_
    refine fl_Tq.stp (pc' := 52) (lv' := [some (.inr (.inr (.inl (76, 277)))), some (.inl (r_goTaper_a4 f ((f 280 2).toInt.toNat))), some (.inl (Int32.ofNat ((f 280 2).toInt.toNat)))]) (st' := [.inr (.inr (.inl (79, 280)))]) (m' := (f, l)) rfl rfl (fl_bo rfl) rfl ?_
    refine fl_Tq.cI (c := (3 : Int32)) rfl (by decide +kernel) (fl_bo rfl) ?_
    refine fl_Tq.ldV (p := 280) (τ := 79) (n := 29780) (z := (0, 0, 0)) (k := 3) (v := f 280 3) rfl (fl_bo rfl) rfl (by decide +kernel) (by decide) rfl ?_
    refine fl_Tq.cI (c := (2 : Int32)) rfl (by decide +kernel) (fl_bo rfl) ?_
    by_cases h4 : (f 280 3).toInt = (2 : Int32).toInt
    · refine fl_Tq.jf rfl (fl_bo rfl) (c2_ne_f h4) rfl ?_
      refine fl_Tq.stp (pc' := 59) (lv' := [some (.inr (.inr (.inl (76, 277)))), some (.inl (r_goTaper_a4 f ((f 280 2).toInt.toNat))), some (.inl (Int32.ofNat ((f 280 2).toInt.toNat)))]) (st' := [.inr (.inr (.inl (76, 277)))]) (m' := (f, l)) rfl rfl (fl_bo rfl) rfl ?_
      refine fl_Tq.cB (c := (23 : Int32)) rfl (by decide +kernel) (fl_bo rfl) ?_
      refine fl_Tq.cal rfl rfl (fl_bo rfl) rfl ?_
      refine t2_its (W := 23) (v := f 280 57) (by decide +kernel) (by decide) rfl ?_
      show fl_Tq _ 226 64 [some (.inr (.inr (.inl (76, 277)))), some (.inl (r_goTaper_a4 f ((f 280 2).toInt.toNat))), some (.inl (Int32.ofNat ((f 280 2).toInt.toNat)))] [.inl (f 280 57)] (f, l) _
      by_cases h5 : (f 280 57).toInt = 0
      · refine fl_Tq.zt rfl (fl_bo rfl) (c1_eq_t h5) rfl ?_
        refine fl_Tq.ret rfl rfl rfl ?_
        unfold r_goTaper_m at k
        simp only [if_neg h3, if_pos h4, if_pos h5] at k
        exact k
      · refine fl_Tq.zf rfl (fl_bo rfl) (c1_eq_f h5) rfl ?_
        refine fl_Tq.stp (pc' := 68) (lv' := [some (.inr (.inr (.inl (76, 277)))), some (.inl (r_goTaper_a4 f ((f 280 2).toInt.toNat))), some (.inl (Int32.ofNat ((f 280 2).toInt.toNat)))]) (st' := [.inr (.inr (.inl (76, 277)))]) (m' := (f, l)) rfl rfl (fl_bo rfl) rfl ?_
        refine fl_Tq.cB (c := (20 : Int32)) rfl (by decide +kernel) (fl_bo rfl) ?_
        refine fl_Tq.cal rfl rfl (fl_bo rfl) rfl ?_
        refine t2_its (W := 20) (v := f 280 54) (by decide +kernel) (by decide) rfl ?_
        show fl_Tq _ 226 73 [some (.inr (.inr (.inl (76, 277)))), some (.inl (r_goTaper_a4 f ((f 280 2).toInt.toNat))), some (.inl (Int32.ofNat ((f 280 2).toInt.toNat)))] [.inl (f 280 54)] (f, l) _
        by_cases h6 : 0 < (f 280 54).toInt
        · refine fl_Tq.zt rfl (fl_bo rfl) (c1_gt_t h6) rfl ?_
          refine fl_Tq.stp (pc' := 78) (lv' := [some (.inr (.inr (.inl (76, 277)))), some (.inl (r_goTaper_a4 f ((f 280 2).toInt.toNat))), some (.inl (Int32.ofNat ((f 280 2).toInt.toNat)))]) (st' := [.inr (.inr (.inl (76, 277)))]) (m' := (f, l)) rfl rfl (fl_bo rfl) rfl ?_
          refine fl_Tq.cB (c := (20 : Int32)) rfl (by decide +kernel) (fl_bo rfl) ?_
          refine fl_Tq.cal rfl rfl (fl_bo rfl) rfl ?_
          refine t2_its (W := 20) (v := f 280 54) (by decide +kernel) (by decide) rfl ?_
          show fl_Tq _ 226 83 [some (.inr (.inr (.inl (76, 277)))), some (.inl (r_goTaper_a4 f ((f 280 2).toInt.toNat))), some (.inl (Int32.ofNat ((f 280 2).toInt.toNat)))] [.inl (f 280 54)] (f, l) _
          refine fl_Tq.cB (c := (9 : Int32)) rfl (by decide +kernel) (fl_bo rfl) ?_
          refine fl_Tq.stp (pc' := 86) (lv' := [some (.inr (.inr (.inl (76, 277)))), some (.inl (r_goTaper_a4 f ((f 280 2).toInt.toNat))), some (.inl (Int32.ofNat ((f 280 2).toInt.toNat)))]) (st' := [.inl ((f 280 54) * (9 : Int32))]) (m' := (f, l)) rfl rfl (fl_bo rfl) rfl ?_
          refine fl_Tq.cB (c := (10 : Int32)) rfl (by decide +kernel) (fl_bo rfl) ?_
          refine fl_Tq.dv rfl (fl_bo rfl) (by decide +kernel) ?_
          refine fl_Tq.stp (pc' := 90) (lv' := [some (.inr (.inr (.inl (76, 277)))), some (.inl (r_goTaper_a4 f ((f 280 2).toInt.toNat))), some (.inl (((f 280 54) * (9 : Int32)) / (10 : Int32)))]) (st' := []) (m' := (f, l)) rfl rfl (fl_bo rfl) rfl ?_
          refine fl_Tq.stp (pc' := 91) (lv' := [some (.inr (.inr (.inl (76, 277)))), some (.inl (r_goTaper_a4 f ((f 280 2).toInt.toNat))), some (.inl (((f 280 54) * (9 : Int32)) / (10 : Int32)))]) (st' := [.inr (.inr (.inl (76, 277)))]) (m' := (f, l)) rfl rfl (fl_bo rfl) rfl ?_
          refine fl_Tq.stp (pc' := 94) (lv' := [some (.inr (.inr (.inl (76, 277)))), some (.inl (r_goTaper_a4 f ((f 280 2).toInt.toNat))), some (.inl (((f 280 54) * (9 : Int32)) / (10 : Int32)))]) (st' := [.inr (.inr (.inl (79, 280)))]) (m' := (f, l)) rfl rfl (fl_bo rfl) rfl ?_
          refine fl_Tq.cB (c := (54 : Int32)) rfl (by decide +kernel) (fl_bo rfl) ?_
          refine fl_Tq.stp (pc' := 97) (lv' := [some (.inr (.inr (.inl (76, 277)))), some (.inl (r_goTaper_a4 f ((f 280 2).toInt.toNat))), some (.inl (((f 280 54) * (9 : Int32)) / (10 : Int32)))]) (st' := [.inl (((f 280 54) * (9 : Int32)) / (10 : Int32)), .inl (54 : Int32), .inr (.inr (.inl (79, 280)))]) (m' := (f, l)) rfl rfl (fl_bo rfl) rfl ?_
          refine fl_Tq.cB (c := (100 : Int32)) rfl (by decide +kernel) (fl_bo rfl) ?_
          have hj133 : fl_Tq (pw_P L xs) 226 107 [some (.inr (.inr (.inl (76, 277)))), some (.inl (r_goTaper_a4 f ((f 280 2).toInt.toNat))), some (.inl (((f 280 54) * (9 : Int32)) / (10 : Int32)))] [.inl (r_goTaper_j99_0 f), .inl (54 : Int32), .inr (.inr (.inl (79, 280)))] (f, l) Q → fl_Tq (pw_P L xs) 226 99 [some (.inr (.inr (.inl (76, 277)))), some (.inl (r_goTaper_a4 f ((f 280 2).toInt.toNat))), some (.inl (((f 280 54) * (9 : Int32)) / (10 : Int32)))] [.inl (100 : Int32), .inl (((f 280 54) * (9 : Int32)) / (10 : Int32)), .inl (54 : Int32), .inr (.inr (.inl (79, 280)))] (f, l) Q := by
            intro hJ
            by_cases h7 : (((f 280 54) * (9 : Int32)) / (10 : Int32)).toInt < (100 : Int32).toInt
            · refine fl_Tq.jf rfl (fl_bo rfl) (c2_ge_f h7) rfl ?_
              refine fl_Tq.cI (c := (0 : Int32)) rfl (by decide +kernel) (fl_bo rfl) ?_
              refine fl_Tq.stp (pc' := 107) (lv' := [some (.inr (.inr (.inl (76, 277)))), some (.inl (r_goTaper_a4 f ((f 280 2).toInt.toNat))), some (.inl (((f 280 54) * (9 : Int32)) / (10 : Int32)))]) (st' := [.inl (0 : Int32), .inl (54 : Int32), .inr (.inr (.inl (79, 280)))]) (m' := (f, l)) rfl rfl (fl_bo rfl) rfl ?_
              have e0 : (r_goTaper_j99_0 f) = (0 : Int32) := by simp only [r_goTaper_j99_0, if_pos h7]
              rw [e0] at hJ
              exact hJ
            · refine fl_Tq.jt rfl (fl_bo rfl) (c2_ge_t h7) rfl ?_
              refine fl_Tq.stp (pc' := 107) (lv' := [some (.inr (.inr (.inl (76, 277)))), some (.inl (r_goTaper_a4 f ((f 280 2).toInt.toNat))), some (.inl (((f 280 54) * (9 : Int32)) / (10 : Int32)))]) (st' := [.inl (((f 280 54) * (9 : Int32)) / (10 : Int32)), .inl (54 : Int32), .inr (.inr (.inl (79, 280)))]) (m' := (f, l)) rfl rfl (fl_bo rfl) rfl ?_
              have e0 : (r_goTaper_j99_0 f) = ((f 280 54) * (9 : Int32)) / (10 : Int32) := by simp only [r_goTaper_j99_0, if_neg h7]
              rw [e0] at hJ
              exact hJ
          refine hj133 ?_
          show fl_Tq _ 226 107 [some (.inr (.inr (.inl (76, 277)))), some (.inl (r_goTaper_a4 f ((f 280 2).toInt.toNat))), some (.inl (((f 280 54) * (9 : Int32)) / (10 : Int32)))] [.inl (r_goTaper_j99_0 f), .inl (54 : Int32), .inr (.inr (.inl (79, 280)))] (f, l) _
          refine fl_Tq.svV (p := 280) (τ := 79) (n := 29780) (z := (0, 0, 0)) (k := 54) (m' := (fl_row f 280 (upd (f 280) 54 (r_goTaper_j99_0 f)), l)) rfl (fl_bo rfl) rfl (by decide +kernel) (by decide) (t2_upn rfl) ?_
          refine fl_Tq.ret rfl rfl rfl ?_
          unfold r_goTaper_m at k
          simp only [if_neg h3, if_pos h4, if_neg h5, if_pos h6] at k
          exact k
        · refine fl_Tq.zf rfl (fl_bo rfl) (c1_gt_f h6) rfl ?_
          refine fl_Tq.ret rfl rfl rfl ?_
          unfold r_goTaper_m at k
          simp only [if_neg h3, if_pos h4, if_neg h5, if_neg h6] at k
          exact k
    · refine fl_Tq.jt rfl (fl_bo rfl) (c2_ne_t h4) rfl ?_
      refine fl_Tq.ret rfl rfl rfl ?_
      unfold r_goTaper_m at k
      simp only [if_neg h3, if_neg h4] at k
      exact k
noncomputable def r_isSo_v (f : t2_F) (x : Int32) : Int32 := if x.toInt < (4 : Int32).toInt then (if (r_soBy_v f x).toInt = (-1 : Int32).toInt then (if x.toInt = (2 : Int32).toInt then (if (f 280 36).toInt < (f 280 8).toInt then (1 : Int32) else (0 : Int32)) else (0 : Int32)) else (1 : Int32)) else (if x.toInt = (4 : Int32).toInt then (if (f 280 3).toInt = (2 : Int32).toInt then (if (f 280 38).toInt < (r_size_v (f 280 54)).toInt then (1 : Int32) else (0 : Int32)) else (0 : Int32)) else (if x.toInt = (5 : Int32).toInt then f 277 4 else (if x.toInt = (6 : Int32).toInt then (if (f 280 15).toInt < (3 : Int32).toInt then (0 : Int32) else (1 : Int32)) else (if x.toInt = (7 : Int32).toInt then (if (f 280 51).toInt < (r_spreadOf_v f).toInt then (1 : Int32) else (0 : Int32)) else (if x.toInt = (8 : Int32).toInt then (if (f 280 16).toInt < (2 : Int32).toInt then (0 : Int32) else (1 : Int32)) else (if x.toInt = (9 : Int32).toInt then (if (f 280 62).toInt = 0 then (0 : Int32) else (if (f 280 62).toInt < (f 280 22).toInt then (1 : Int32) else (0 : Int32))) else (if (f 280 63).toInt = 0 then (1 : Int32) else (0 : Int32))))))))
theorem r_isSo_q {L : Nat} {xs : Nat → Int32} {f : t2_F} {l : t2_L} {Q : Option fl_V → fl_M → Prop} {x : Int32} (hn : 0 ≤ (f 280 2).toInt ∧ (f 280 2).toInt ≤ 16) (hr : t2_RS f) (hk : ∀ C : Nat, (C : Int) < (f 280 2).toInt → t2_ck f C) (hs : f 277 4 = 0 ∨ f 277 4 = 1) (k : Q (some (.inl (r_isSo_v f x))) (f, l)) : fl_Tq (pw_P L xs) 227 0 (fl_args (am_mxl (pw_P L xs) 227) [.inr (.inr (.inl (76, 277))), .inl x]) [] (f, l) Q := by
  refine fl_Tq.stp (pc' := 1) (lv' := [some (.inr (.inr (.inl (76, 277)))), some (.inl x)]) (st' := [.inl x]) (m' := (f, l)) rfl rfl (fl_bo rfl) rfl ?_
  refine fl_Tq.cI (c := (4 : Int32)) rfl (by decide +kernel) (fl_bo rfl) ?_
  by_cases h1 : x.toInt < (4 : Int32).toInt
  · refine fl_Tq.jf rfl (fl_bo rfl) (c2_ge_f h1) rfl ?_
    refine fl_Tq.stp (pc' := 6) (lv' := [some (.inr (.inr (.inl (76, 277)))), some (.inl x)]) (st' := [.inr (.inr (.inl (76, 277)))]) (m' := (f, l)) rfl rfl (fl_bo rfl) rfl ?_
    refine fl_Tq.stp (pc' := 7) (lv' := [some (.inr (.inr (.inl (76, 277)))), some (.inl x)]) (st' := [.inl x, .inr (.inr (.inl (76, 277)))]) (m' := (f, l)) rfl rfl (fl_bo rfl) rfl ?_
    refine fl_Tq.cal rfl rfl (fl_bo rfl) rfl ?_
    refine r_soBy_q hn hr hk ?_
    show fl_Tq _ 227 10 [some (.inr (.inr (.inl (76, 277)))), some (.inl x)] [.inl (r_soBy_v f x)] (f, l) _
    refine fl_Tq.cI (c := (-1 : Int32)) rfl (by decide +kernel) (fl_bo rfl) ?_
    by_cases h2 : (r_soBy_v f x).toInt = (-1 : Int32).toInt
    · refine fl_Tq.jf rfl (fl_bo rfl) (c2_ne_f h2) rfl ?_
      refine fl_Tq.stp (pc' := 15) (lv' := [some (.inr (.inr (.inl (76, 277)))), some (.inl x)]) (st' := [.inl x]) (m' := (f, l)) rfl rfl (fl_bo rfl) rfl ?_
      refine fl_Tq.cI (c := (2 : Int32)) rfl (by decide +kernel) (fl_bo rfl) ?_
      by_cases h3 : x.toInt = (2 : Int32).toInt
      · refine fl_Tq.jf rfl (fl_bo rfl) (c2_ne_f h3) rfl ?_
        refine fl_Tq.stp (pc' := 20) (lv' := [some (.inr (.inr (.inl (76, 277)))), some (.inl x)]) (st' := [.inr (.inr (.inl (76, 277)))]) (m' := (f, l)) rfl rfl (fl_bo rfl) rfl ?_
        refine fl_Tq.stp (pc' := 23) (lv' := [some (.inr (.inr (.inl (76, 277)))), some (.inl x)]) (st' := [.inr (.inr (.inl (79, 280)))]) (m' := (f, l)) rfl rfl (fl_bo rfl) rfl ?_
        refine fl_Tq.cB (c := (8 : Int32)) rfl (by decide +kernel) (fl_bo rfl) ?_
        refine fl_Tq.ldV (p := 280) (τ := 79) (n := 29780) (z := (0, 0, 0)) (k := 8) (v := f 280 8) rfl (fl_bo rfl) rfl (by decide +kernel) (by decide) rfl ?_
        refine fl_Tq.stp (pc' := 27) (lv' := [some (.inr (.inr (.inl (76, 277)))), some (.inl x)]) (st' := [.inr (.inr (.inl (76, 277))), .inl (f 280 8)]) (m' := (f, l)) rfl rfl (fl_bo rfl) rfl ?_
        refine fl_Tq.cI (c := (2 : Int32)) rfl (by decide +kernel) (fl_bo rfl) ?_
        refine fl_Tq.cal rfl rfl (fl_bo rfl) rfl ?_
        refine t2_its (W := 2) (v := f 280 36) (by decide +kernel) (by decide) rfl ?_
        show fl_Tq _ 227 31 [some (.inr (.inr (.inl (76, 277)))), some (.inl x)] [.inl (f 280 36), .inl (f 280 8)] (f, l) _
        by_cases h4 : (f 280 36).toInt < (f 280 8).toInt
        · refine fl_Tq.jf rfl (fl_bo rfl) (c2_le_f h4) rfl ?_
          refine fl_Tq.cI (c := (1 : Int32)) rfl (by decide +kernel) (fl_bo rfl) ?_
          refine fl_Tq.stp (pc' := 39) (lv' := [some (.inr (.inr (.inl (76, 277)))), some (.inl x)]) (st' := [.inl (1 : Int32)]) (m' := (f, l)) rfl rfl (fl_bo rfl) rfl ?_
          refine fl_Tq.ret rfl rfl rfl ?_
          unfold r_isSo_v at k
          simp only [if_pos h1, if_pos h2, if_pos h3, if_pos h4] at k
          exact k
        · refine fl_Tq.jt rfl (fl_bo rfl) (c2_le_t h4) rfl ?_
          refine fl_Tq.cI (c := (0 : Int32)) rfl (by decide +kernel) (fl_bo rfl) ?_
          refine fl_Tq.ret rfl rfl rfl ?_
          unfold r_isSo_v at k
          simp only [if_pos h1, if_pos h2, if_pos h3, if_neg h4] at k
          exact k
      · refine fl_Tq.jt rfl (fl_bo rfl) (c2_ne_t h3) rfl ?_
        refine fl_Tq.cI (c := (0 : Int32)) rfl (by decide +kernel) (fl_bo rfl) ?_
        refine fl_Tq.ret rfl rfl rfl ?_
        unfold r_isSo_v at k
        simp only [if_pos h1, if_pos h2, if_neg h3] at k
        exact k
    · refine fl_Tq.jt rfl (fl_bo rfl) (c2_ne_t h2) rfl ?_
      refine fl_Tq.cI (c := (1 : Int32)) rfl (by decide +kernel) (fl_bo rfl) ?_
      refine fl_Tq.stp (pc' := 39) (lv' := [some (.inr (.inr (.inl (76, 277)))), some (.inl x)]) (st' := [.inl (1 : Int32)]) (m' := (f, l)) rfl rfl (fl_bo rfl) rfl ?_
      refine fl_Tq.ret rfl rfl rfl ?_
      unfold r_isSo_v at k
      simp only [if_pos h1, if_neg h2] at k
      exact k
  · refine fl_Tq.jt rfl (fl_bo rfl) (c2_ge_t h1) rfl ?_
    refine fl_Tq.stp (pc' := 41) (lv' := [some (.inr (.inr (.inl (76, 277)))), some (.inl x)]) (st' := [.inl x]) (m' := (f, l)) rfl rfl (fl_bo rfl) rfl ?_
    refine fl_Tq.cI (c := (4 : Int32)) rfl (by decide +kernel) (fl_bo rfl) ?_
    by_cases h5 : x.toInt = (4 : Int32).toInt
    · refine fl_Tq.jf rfl (fl_bo rfl) (c2_ne_f h5) rfl ?_
      refine fl_Tq.stp (pc' := 46) (lv' := [some (.inr (.inr (.inl (76, 277)))), some (.inl x)]) (st' := [.inr (.inr (.inl (76, 277)))]) (m' := (f, l)) rfl rfl (fl_bo rfl) rfl ?_
      refine fl_Tq.stp (pc' := 49) (lv' := [some (.inr (.inr (.inl (76, 277)))), some (.inl x)]) (st' := [.inr (.inr (.inl (79, 280)))]) (m' := (f, l)) rfl rfl (fl_bo rfl) rfl ?_
      refine fl_Tq.cI (c := (3 : Int32)) rfl (by decide +kernel) (fl_bo rfl) ?_
      refine fl_Tq.ldV (p := 280) (τ := 79) (n := 29780) (z := (0, 0, 0)) (k := 3) (v := f 280 3) rfl (fl_bo rfl) rfl (by decide +kernel) (by decide) rfl ?_
      refine fl_Tq.cI (c := (2 : Int32)) rfl (by decide +kernel) (fl_bo rfl) ?_
      by_cases h6 : (f 280 3).toInt = (2 : Int32).toInt
      · refine fl_Tq.jf rfl (fl_bo rfl) (c2_ne_f h6) rfl ?_
        refine fl_Tq.stp (pc' := 56) (lv' := [some (.inr (.inr (.inl (76, 277)))), some (.inl x)]) (st' := [.inr (.inr (.inl (76, 277)))]) (m' := (f, l)) rfl rfl (fl_bo rfl) rfl ?_
        refine fl_Tq.cB (c := (20 : Int32)) rfl (by decide +kernel) (fl_bo rfl) ?_
        refine fl_Tq.cal rfl rfl (fl_bo rfl) rfl ?_
        refine t2_its (W := 20) (v := f 280 54) (by decide +kernel) (by decide) rfl ?_
        show fl_Tq _ 227 61 [some (.inr (.inr (.inl (76, 277)))), some (.inl x)] [.inl (f 280 54)] (f, l) _
        refine fl_Tq.cal rfl rfl (fl_bo rfl) rfl ?_
        refine r_size_q  ?_
        show fl_Tq _ 227 64 [some (.inr (.inr (.inl (76, 277)))), some (.inl x)] [.inl (r_size_v (f 280 54))] (f, l) _
        refine fl_Tq.stp (pc' := 65) (lv' := [some (.inr (.inr (.inl (76, 277)))), some (.inl x)]) (st' := [.inr (.inr (.inl (76, 277))), .inl (r_size_v (f 280 54))]) (m' := (f, l)) rfl rfl (fl_bo rfl) rfl ?_
        refine fl_Tq.cI (c := (4 : Int32)) rfl (by decide +kernel) (fl_bo rfl) ?_
        refine fl_Tq.cal rfl rfl (fl_bo rfl) rfl ?_
        refine t2_its (W := 4) (v := f 280 38) (by decide +kernel) (by decide) rfl ?_
        show fl_Tq _ 227 69 [some (.inr (.inr (.inl (76, 277)))), some (.inl x)] [.inl (f 280 38), .inl (r_size_v (f 280 54))] (f, l) _
        by_cases h7 : (f 280 38).toInt < (r_size_v (f 280 54)).toInt
        · refine fl_Tq.jf rfl (fl_bo rfl) (c2_le_f h7) rfl ?_
          refine fl_Tq.cI (c := (1 : Int32)) rfl (by decide +kernel) (fl_bo rfl) ?_
          refine fl_Tq.stp (pc' := 77) (lv' := [some (.inr (.inr (.inl (76, 277)))), some (.inl x)]) (st' := [.inl (1 : Int32)]) (m' := (f, l)) rfl rfl (fl_bo rfl) rfl ?_
          refine fl_Tq.ret rfl rfl rfl ?_
          unfold r_isSo_v at k
          simp only [if_neg h1, if_pos h5, if_pos h6, if_pos h7] at k
          exact k
        · refine fl_Tq.jt rfl (fl_bo rfl) (c2_le_t h7) rfl ?_
          refine fl_Tq.cI (c := (0 : Int32)) rfl (by decide +kernel) (fl_bo rfl) ?_
          refine fl_Tq.ret rfl rfl rfl ?_
          unfold r_isSo_v at k
          simp only [if_neg h1, if_pos h5, if_pos h6, if_neg h7] at k
          exact k
      · refine fl_Tq.jt rfl (fl_bo rfl) (c2_ne_t h6) rfl ?_
        refine fl_Tq.cI (c := (0 : Int32)) rfl (by decide +kernel) (fl_bo rfl) ?_
        refine fl_Tq.ret rfl rfl rfl ?_
        unfold r_isSo_v at k
        simp only [if_neg h1, if_pos h5, if_neg h6] at k
        exact k
    · refine fl_Tq.jt rfl (fl_bo rfl) (c2_ne_t h5) rfl ?_
      refine fl_Tq.stp (pc' := 79) (lv' := [some (.inr (.inr (.inl (76, 277)))), some (.inl x)]) (st' := [.inl x]) (m' := (f, l)) rfl rfl (fl_bo rfl) rfl ?_
      refine fl_Tq.cI (c := (5 : Int32)) rfl (by decide +kernel) (fl_bo rfl) ?_
      by_cases h8 : x.toInt = (5 : Int32).toInt
      · refine fl_Tq.jf rfl (fl_bo rfl) (c2_ne_f h8) rfl ?_
        refine fl_Tq.stp (pc' := 84) (lv' := [some (.inr (.inr (.inl (76, 277)))), some (.inl x)]) (st' := [.inr (.inr (.inl (76, 277)))]) (m' := (f, l)) rfl rfl (fl_bo rfl) rfl ?_
        refine fl_Tq.gfV (k := 4) (v := f 277 4) rfl (fl_bo rfl) rfl rfl ?_
        refine fl_Tq.ret rfl rfl (if_pos hs) ?_
        unfold r_isSo_v at k
        simp only [if_neg h1, if_neg h5, if_pos h8] at k
        exact k
      · refine fl_Tq.jt rfl (fl_bo rfl) (c2_ne_t h8) rfl ?_
        refine fl_Tq.stp (pc' := 89) (lv' := [some (.inr (.inr (.inl (76, 277)))), some (.inl x)]) (st' := [.inl x]) (m' := (f, l)) rfl rfl (fl_bo rfl) rfl ?_
        refine fl_Tq.cB (c := (6 : Int32)) rfl (by decide +kernel) (fl_bo rfl) ?_
        by_cases h9 : x.toInt = (6 : Int32).toInt
        · refine fl_Tq.jf rfl (fl_bo rfl) (c2_ne_f h9) rfl ?_
          refine fl_Tq.stp (pc' := 95) (lv' := [some (.inr (.inr (.inl (76, 277)))), some (.inl x)]) (st' := [.inr (.inr (.inl (76, 277)))]) (m' := (f, l)) rfl rfl (fl_bo rfl) rfl ?_
          refine fl_Tq.stp (pc' := 98) (lv' := [some (.inr (.inr (.inl (76, 277)))), some (.inl x)]) (st' := [.inr (.inr (.inl (79, 280)))]) (m' := (f, l)) rfl rfl (fl_bo rfl) rfl ?_
          refine fl_Tq.cB (c := (15 : Int32)) rfl (by decide +kernel) (fl_bo rfl) ?_
          refine fl_Tq.ldV (p := 280) (τ := 79) (n := 29780) (z := (0, 0, 0)) (k := 15) (v := f 280 15) rfl (fl_bo rfl) rfl (by decide +kernel) (by decide) rfl ?_
          refine fl_Tq.cI (c := (3 : Int32)) rfl (by decide +kernel) (fl_bo rfl) ?_
          by_cases h10 : (f 280 15).toInt < (3 : Int32).toInt
          · refine fl_Tq.jt rfl (fl_bo rfl) (c2_lt_t h10) rfl ?_
            refine fl_Tq.cI (c := (0 : Int32)) rfl (by decide +kernel) (fl_bo rfl) ?_
            refine fl_Tq.ret rfl rfl rfl ?_
            unfold r_isSo_v at k
            simp only [if_neg h1, if_neg h5, if_neg h8, if_pos h9, if_pos h10] at k
            exact k
          · refine fl_Tq.jf rfl (fl_bo rfl) (c2_lt_f h10) rfl ?_
            refine fl_Tq.cI (c := (1 : Int32)) rfl (by decide +kernel) (fl_bo rfl) ?_
            refine fl_Tq.stp (pc' := 110) (lv' := [some (.inr (.inr (.inl (76, 277)))), some (.inl x)]) (st' := [.inl (1 : Int32)]) (m' := (f, l)) rfl rfl (fl_bo rfl) rfl ?_
            refine fl_Tq.ret rfl rfl rfl ?_
            unfold r_isSo_v at k
            simp only [if_neg h1, if_neg h5, if_neg h8, if_pos h9, if_neg h10] at k
            exact k
        · refine fl_Tq.jt rfl (fl_bo rfl) (c2_ne_t h9) rfl ?_
          refine fl_Tq.stp (pc' := 112) (lv' := [some (.inr (.inr (.inl (76, 277)))), some (.inl x)]) (st' := [.inl x]) (m' := (f, l)) rfl rfl (fl_bo rfl) rfl ?_
          refine fl_Tq.cB (c := (7 : Int32)) rfl (by decide +kernel) (fl_bo rfl) ?_
          by_cases h11 : x.toInt = (7 : Int32).toInt
          · refine fl_Tq.jf rfl (fl_bo rfl) (c2_ne_f h11) rfl ?_
            refine fl_Tq.stp (pc' := 118) (lv' := [some (.inr (.inr (.inl (76, 277)))), some (.inl x)]) (st' := [.inr (.inr (.inl (76, 277)))]) (m' := (f, l)) rfl rfl (fl_bo rfl) rfl ?_
            refine fl_Tq.cal rfl rfl (fl_bo rfl) rfl ?_
            refine r_spreadOf_q hn hk ?_
            show fl_Tq _ 227 121 [some (.inr (.inr (.inl (76, 277)))), some (.inl x)] [.inl (r_spreadOf_v f)] (f, l) _
            refine fl_Tq.stp (pc' := 122) (lv' := [some (.inr (.inr (.inl (76, 277)))), some (.inl x)]) (st' := [.inr (.inr (.inl (76, 277))), .inl (r_spreadOf_v f)]) (m' := (f, l)) rfl rfl (fl_bo rfl) rfl ?_
            refine fl_Tq.cB (c := (17 : Int32)) rfl (by decide +kernel) (fl_bo rfl) ?_
            refine fl_Tq.cal rfl rfl (fl_bo rfl) rfl ?_
            refine t2_its (W := 17) (v := f 280 51) (by decide +kernel) (by decide) rfl ?_
            show fl_Tq _ 227 127 [some (.inr (.inr (.inl (76, 277)))), some (.inl x)] [.inl (f 280 51), .inl (r_spreadOf_v f)] (f, l) _
            by_cases h12 : (f 280 51).toInt < (r_spreadOf_v f).toInt
            · refine fl_Tq.jf rfl (fl_bo rfl) (c2_le_f h12) rfl ?_
              refine fl_Tq.cI (c := (1 : Int32)) rfl (by decide +kernel) (fl_bo rfl) ?_
              refine fl_Tq.stp (pc' := 135) (lv' := [some (.inr (.inr (.inl (76, 277)))), some (.inl x)]) (st' := [.inl (1 : Int32)]) (m' := (f, l)) rfl rfl (fl_bo rfl) rfl ?_
              refine fl_Tq.ret rfl rfl rfl ?_
              unfold r_isSo_v at k
              simp only [if_neg h1, if_neg h5, if_neg h8, if_neg h9, if_pos h11, if_pos h12] at k
              exact k
            · refine fl_Tq.jt rfl (fl_bo rfl) (c2_le_t h12) rfl ?_
              refine fl_Tq.cI (c := (0 : Int32)) rfl (by decide +kernel) (fl_bo rfl) ?_
              refine fl_Tq.ret rfl rfl rfl ?_
              unfold r_isSo_v at k
              simp only [if_neg h1, if_neg h5, if_neg h8, if_neg h9, if_pos h11, if_neg h12] at k
              exact k
          · refine fl_Tq.jt rfl (fl_bo rfl) (c2_ne_t h11) rfl ?_
            refine fl_Tq.stp (pc' := 137) (lv' := [some (.inr (.inr (.inl (76, 277)))), some (.inl x)]) (st' := [.inl x]) (m' := (f, l)) rfl rfl (fl_bo rfl) rfl ?_
            refine fl_Tq.cB (c := (8 : Int32)) rfl (by decide +kernel) (fl_bo rfl) ?_
            by_cases h13 : x.toInt = (8 : Int32).toInt
            · refine fl_Tq.jf rfl (fl_bo rfl) (c2_ne_f h13) rfl ?_
              refine fl_Tq.stp (pc' := 143) (lv' := [some (.inr (.inr (.inl (76, 277)))), some (.inl x)]) (st' := [.inr (.inr (.inl (76, 277)))]) (m' := (f, l)) rfl rfl (fl_bo rfl) rfl ?_
              refine fl_Tq.stp (pc' := 146) (lv' := [some (.inr (.inr (.inl (76, 277)))), some (.inl x)]) (st' := [.inr (.inr (.inl (79, 280)))]) (m' := (f, l)) rfl rfl (fl_bo rfl) rfl ?_
              refine fl_Tq.cB (c := (16 : Int32)) rfl (by decide +kernel) (fl_bo rfl) ?_
              refine fl_Tq.ldV (p := 280) (τ := 79) (n := 29780) (z := (0, 0, 0)) (k := 16) (v := f 280 16) rfl (fl_bo rfl) rfl (by decide +kernel) (by decide) rfl ?_
              refine fl_Tq.cI (c := (2 : Int32)) rfl (by decide +kernel) (fl_bo rfl) ?_
              by_cases h14 : (f 280 16).toInt < (2 : Int32).toInt
              · refine fl_Tq.jt rfl (fl_bo rfl) (c2_lt_t h14) rfl ?_
                refine fl_Tq.cI (c := (0 : Int32)) rfl (by decide +kernel) (fl_bo rfl) ?_
                refine fl_Tq.ret rfl rfl rfl ?_
                unfold r_isSo_v at k
                simp only [if_neg h1, if_neg h5, if_neg h8, if_neg h9, if_neg h11, if_pos h13, if_pos h14] at k
                exact k
              · refine fl_Tq.jf rfl (fl_bo rfl) (c2_lt_f h14) rfl ?_
                refine fl_Tq.cI (c := (1 : Int32)) rfl (by decide +kernel) (fl_bo rfl) ?_
                refine fl_Tq.stp (pc' := 158) (lv' := [some (.inr (.inr (.inl (76, 277)))), some (.inl x)]) (st' := [.inl (1 : Int32)]) (m' := (f, l)) rfl rfl (fl_bo rfl) rfl ?_
                refine fl_Tq.ret rfl rfl rfl ?_
                unfold r_isSo_v at k
                simp only [if_neg h1, if_neg h5, if_neg h8, if_neg h9, if_neg h11, if_pos h13, if_neg h14] at k
                exact k
            · refine fl_Tq.jt rfl (fl_bo rfl) (c2_ne_t h13) rfl ?_
              refine fl_Tq.stp (pc' := 160) (lv' := [some (.inr (.inr (.inl (76, 277)))), some (.inl x)]) (st' := [.inl x]) (m' := (f, l)) rfl rfl (fl_bo rfl) rfl ?_
              refine fl_Tq.cB (c := (9 : Int32)) rfl (by decide +kernel) (fl_bo rfl) ?_
              by_cases h15 : x.toInt = (9 : Int32).toInt
              · refine fl_Tq.jf rfl (fl_bo rfl) (c2_ne_f h15) rfl ?_
                refine fl_Tq.stp (pc' := 166) (lv' := [some (.inr (.inr (.inl (76, 277)))), some (.inl x)]) (st' := [.inr (.inr (.inl (76, 277)))]) (m' := (f, l)) rfl rfl (fl_bo rfl) rfl ?_
                refine fl_Tq.cB (c := (28 : Int32)) rfl (by decide +kernel) (fl_bo rfl) ?_
                refine fl_Tq.cal rfl rfl (fl_bo rfl) rfl ?_
                refine t2_its (W := 28) (v := f 280 62) (by decide +kernel) (by decide) rfl ?_
                show fl_Tq _ 227 171 [some (.inr (.inr (.inl (76, 277)))), some (.inl x)] [.inl (f 280 62)] (f, l) _
                by_cases h16 : (f 280 62).toInt = 0
                · refine fl_Tq.zt rfl (fl_bo rfl) (c1_eq_t h16) rfl ?_
                  refine fl_Tq.cI (c := (0 : Int32)) rfl (by decide +kernel) (fl_bo rfl) ?_
                  refine fl_Tq.ret rfl rfl rfl ?_
                  unfold r_isSo_v at k
                  simp only [if_neg h1, if_neg h5, if_neg h8, if_neg h9, if_neg h11, if_neg h13, if_pos h15, if_pos h16] at k
                  exact k
                · refine fl_Tq.zf rfl (fl_bo rfl) (c1_eq_f h16) rfl ?_
                  refine fl_Tq.stp (pc' := 175) (lv' := [some (.inr (.inr (.inl (76, 277)))), some (.inl x)]) (st' := [.inr (.inr (.inl (76, 277)))]) (m' := (f, l)) rfl rfl (fl_bo rfl) rfl ?_
                  refine fl_Tq.stp (pc' := 178) (lv' := [some (.inr (.inr (.inl (76, 277)))), some (.inl x)]) (st' := [.inr (.inr (.inl (79, 280)))]) (m' := (f, l)) rfl rfl (fl_bo rfl) rfl ?_
                  refine fl_Tq.cB (c := (22 : Int32)) rfl (by decide +kernel) (fl_bo rfl) ?_
                  refine fl_Tq.ldV (p := 280) (τ := 79) (n := 29780) (z := (0, 0, 0)) (k := 22) (v := f 280 22) rfl (fl_bo rfl) rfl (by decide +kernel) (by decide) rfl ?_
                  refine fl_Tq.stp (pc' := 182) (lv' := [some (.inr (.inr (.inl (76, 277)))), some (.inl x)]) (st' := [.inr (.inr (.inl (76, 277))), .inl (f 280 22)]) (m' := (f, l)) rfl rfl (fl_bo rfl) rfl ?_
                  refine fl_Tq.cB (c := (28 : Int32)) rfl (by decide +kernel) (fl_bo rfl) ?_
                  refine fl_Tq.cal rfl rfl (fl_bo rfl) rfl ?_
                  refine t2_its (W := 28) (v := f 280 62) (by decide +kernel) (by decide) rfl ?_
                  show fl_Tq _ 227 187 [some (.inr (.inr (.inl (76, 277)))), some (.inl x)] [.inl (f 280 62), .inl (f 280 22)] (f, l) _
                  by_cases h17 : (f 280 62).toInt < (f 280 22).toInt
                  · refine fl_Tq.jf rfl (fl_bo rfl) (c2_le_f h17) rfl ?_
                    refine fl_Tq.cI (c := (1 : Int32)) rfl (by decide +kernel) (fl_bo rfl) ?_
                    refine fl_Tq.stp (pc' := 195) (lv' := [some (.inr (.inr (.inl (76, 277)))), some (.inl x)]) (st' := [.inl (1 : Int32)]) (m' := (f, l)) rfl rfl (fl_bo rfl) rfl ?_
                    refine fl_Tq.ret rfl rfl rfl ?_
                    unfold r_isSo_v at k
                    simp only [if_neg h1, if_neg h5, if_neg h8, if_neg h9, if_neg h11, if_neg h13, if_pos h15, if_neg h16, if_pos h17] at k
                    exact k
                  · refine fl_Tq.jt rfl (fl_bo rfl) (c2_le_t h17) rfl ?_
                    refine fl_Tq.cI (c := (0 : Int32)) rfl (by decide +kernel) (fl_bo rfl) ?_
                    refine fl_Tq.ret rfl rfl rfl ?_
                    unfold r_isSo_v at k
                    simp only [if_neg h1, if_neg h5, if_neg h8, if_neg h9, if_neg h11, if_neg h13, if_pos h15, if_neg h16, if_neg h17] at k
                    exact k
              · refine fl_Tq.jt rfl (fl_bo rfl) (c2_ne_t h15) rfl ?_
                refine fl_Tq.stp (pc' := 197) (lv' := [some (.inr (.inr (.inl (76, 277)))), some (.inl x)]) (st' := [.inr (.inr (.inl (76, 277)))]) (m' := (f, l)) rfl rfl (fl_bo rfl) rfl ?_
                refine fl_Tq.cB (c := (29 : Int32)) rfl (by decide +kernel) (fl_bo rfl) ?_
                refine fl_Tq.cal rfl rfl (fl_bo rfl) rfl ?_
                refine t2_its (W := 29) (v := f 280 63) (by decide +kernel) (by decide) rfl ?_
                show fl_Tq _ 227 202 [some (.inr (.inr (.inl (76, 277)))), some (.inl x)] [.inl (f 280 63)] (f, l) _
                by_cases h18 : (f 280 63).toInt = 0
                · refine fl_Tq.zf rfl (fl_bo rfl) (c1_ne_f h18) rfl ?_
                  refine fl_Tq.cI (c := (1 : Int32)) rfl (by decide +kernel) (fl_bo rfl) ?_
                  refine fl_Tq.stp (pc' := 210) (lv' := [some (.inr (.inr (.inl (76, 277)))), some (.inl x)]) (st' := [.inl (1 : Int32)]) (m' := (f, l)) rfl rfl (fl_bo rfl) rfl ?_
                  refine fl_Tq.ret rfl rfl rfl ?_
                  unfold r_isSo_v at k
                  simp only [if_neg h1, if_neg h5, if_neg h8, if_neg h9, if_neg h11, if_neg h13, if_neg h15, if_pos h18] at k
                  exact k
                · refine fl_Tq.zt rfl (fl_bo rfl) (c1_ne_t h18) rfl ?_
                  refine fl_Tq.cI (c := (0 : Int32)) rfl (by decide +kernel) (fl_bo rfl) ?_
                  refine fl_Tq.ret rfl rfl rfl ?_
                  unfold r_isSo_v at k
                  simp only [if_neg h1, if_neg h5, if_neg h8, if_neg h9, if_neg h11, if_neg h13, if_neg h15, if_neg h18] at k
                  exact k
noncomputable def r_is_v (f : t2_F) (x : Int32) : Int32 := if x.toInt = 0 then f 280 2 else (if x.toInt = 1 then f 280 3 else (if x.toInt = 2 then f 280 4 else (if x.toInt = 3 then r_pack_v f else (if x.toInt = 4 then f 280 5 else (if x.toInt = 5 then f 280 6 else (if x.toInt = 6 then f 280 7 else (if x.toInt = 7 then f 280 8 else (if x.toInt = 8 then f 280 9 else (if x.toInt = 9 then f 280 10 else (if x.toInt = 10 then f 280 11 else (if x.toInt = 11 then f 280 12 else (if x.toInt = 12 then f 280 19 else (if x.toInt = 13 then f 280 13 else (if x.toInt = 14 then r_actual_v f else (if x.toInt = 15 then f 280 17 else (-1000000000 : Int32))))))))))))))))
theorem r_is_q {L : Nat} {xs : Nat → Int32} {f : t2_F} {l : t2_L} {Q : Option fl_V → fl_M → Prop} {x : Int32} (hn : 0 ≤ (f 280 2).toInt ∧ (f 280 2).toInt ≤ 16) (hr : t2_RS f) (hk : ∀ C : Nat, (C : Int) < (f 280 2).toInt → t2_ck f C) (k : Q (some (.inl (r_is_v f x))) (f, l)) : fl_Tq (pw_P L xs) 268 0 (fl_args (am_mxl (pw_P L xs) 268) [.inr (.inr (.inl (76, 277))), .inl x]) [] (f, l) Q := by
  refine fl_Tq.stp (pc' := 1) (lv' := [some (.inr (.inr (.inl (76, 277)))), some (.inl x)]) (st' := [.inl x]) (m' := (f, l)) rfl rfl (fl_bo rfl) rfl ?_
  by_cases h1 : x.toInt = 0
  · refine fl_Tq.swI (k := 0) rfl (fl_bo rfl) h1 rfl rfl ?_
    refine fl_Tq.stp (pc' := 81) (lv' := [some (.inr (.inr (.inl (76, 277)))), some (.inl x)]) (st' := [.inr (.inr (.inl (76, 277)))]) (m' := (f, l)) rfl rfl (fl_bo rfl) rfl ?_
    refine fl_Tq.stp (pc' := 84) (lv' := [some (.inr (.inr (.inl (76, 277)))), some (.inl x)]) (st' := [.inr (.inr (.inl (79, 280)))]) (m' := (f, l)) rfl rfl (fl_bo rfl) rfl ?_
    refine fl_Tq.cI (c := (2 : Int32)) rfl (by decide +kernel) (fl_bo rfl) ?_
    refine fl_Tq.ldV (p := 280) (τ := 79) (n := 29780) (z := (0, 0, 0)) (k := 2) (v := f 280 2) rfl (fl_bo rfl) rfl (by decide +kernel) (by decide) rfl ?_
    refine fl_Tq.ret rfl rfl rfl ?_
    unfold r_is_v at k
    simp only [if_pos h1] at k
    exact k
  by_cases h2 : x.toInt = 1
  · refine fl_Tq.swI (k := 1) rfl (fl_bo rfl) h2 rfl rfl ?_
    refine fl_Tq.stp (pc' := 88) (lv' := [some (.inr (.inr (.inl (76, 277)))), some (.inl x)]) (st' := [.inr (.inr (.inl (76, 277)))]) (m' := (f, l)) rfl rfl (fl_bo rfl) rfl ?_
    refine fl_Tq.stp (pc' := 91) (lv' := [some (.inr (.inr (.inl (76, 277)))), some (.inl x)]) (st' := [.inr (.inr (.inl (79, 280)))]) (m' := (f, l)) rfl rfl (fl_bo rfl) rfl ?_
    refine fl_Tq.cI (c := (3 : Int32)) rfl (by decide +kernel) (fl_bo rfl) ?_
    refine fl_Tq.ldV (p := 280) (τ := 79) (n := 29780) (z := (0, 0, 0)) (k := 3) (v := f 280 3) rfl (fl_bo rfl) rfl (by decide +kernel) (by decide) rfl ?_
    refine fl_Tq.ret rfl rfl rfl ?_
    unfold r_is_v at k
    simp only [if_neg h1, if_pos h2] at k
    exact k
  by_cases h3 : x.toInt = 2
  · refine fl_Tq.swI (k := 2) rfl (fl_bo rfl) h3 rfl rfl ?_
    refine fl_Tq.stp (pc' := 95) (lv' := [some (.inr (.inr (.inl (76, 277)))), some (.inl x)]) (st' := [.inr (.inr (.inl (76, 277)))]) (m' := (f, l)) rfl rfl (fl_bo rfl) rfl ?_
    refine fl_Tq.stp (pc' := 98) (lv' := [some (.inr (.inr (.inl (76, 277)))), some (.inl x)]) (st' := [.inr (.inr (.inl (79, 280)))]) (m' := (f, l)) rfl rfl (fl_bo rfl) rfl ?_
    refine fl_Tq.cI (c := (4 : Int32)) rfl (by decide +kernel) (fl_bo rfl) ?_
    refine fl_Tq.ldV (p := 280) (τ := 79) (n := 29780) (z := (0, 0, 0)) (k := 4) (v := f 280 4) rfl (fl_bo rfl) rfl (by decide +kernel) (by decide) rfl ?_
    refine fl_Tq.ret rfl rfl rfl ?_
    unfold r_is_v at k
    simp only [if_neg h1, if_neg h2, if_pos h3] at k
    exact k
  by_cases h4 : x.toInt = 3
  · refine fl_Tq.swI (k := 3) rfl (fl_bo rfl) h4 rfl rfl ?_
    refine fl_Tq.stp (pc' := 102) (lv' := [some (.inr (.inr (.inl (76, 277)))), some (.inl x)]) (st' := [.inr (.inr (.inl (76, 277)))]) (m' := (f, l)) rfl rfl (fl_bo rfl) rfl ?_
    refine fl_Tq.cal rfl rfl (fl_bo rfl) rfl ?_
    refine r_pack_q hn hr hk ?_
    show fl_Tq _ 268 105 [some (.inr (.inr (.inl (76, 277)))), some (.inl x)] [.inl (r_pack_v f)] (f, l) _
    refine fl_Tq.ret rfl rfl rfl ?_
    unfold r_is_v at k
    simp only [if_neg h1, if_neg h2, if_neg h3, if_pos h4] at k
    exact k
  by_cases h5 : x.toInt = 4
  · refine fl_Tq.swI (k := 4) rfl (fl_bo rfl) h5 rfl rfl ?_
    refine fl_Tq.stp (pc' := 107) (lv' := [some (.inr (.inr (.inl (76, 277)))), some (.inl x)]) (st' := [.inr (.inr (.inl (76, 277)))]) (m' := (f, l)) rfl rfl (fl_bo rfl) rfl ?_
    refine fl_Tq.stp (pc' := 110) (lv' := [some (.inr (.inr (.inl (76, 277)))), some (.inl x)]) (st' := [.inr (.inr (.inl (79, 280)))]) (m' := (f, l)) rfl rfl (fl_bo rfl) rfl ?_
    refine fl_Tq.cI (c := (5 : Int32)) rfl (by decide +kernel) (fl_bo rfl) ?_
    refine fl_Tq.ldV (p := 280) (τ := 79) (n := 29780) (z := (0, 0, 0)) (k := 5) (v := f 280 5) rfl (fl_bo rfl) rfl (by decide +kernel) (by decide) rfl ?_
    refine fl_Tq.ret rfl rfl rfl ?_
    unfold r_is_v at k
    simp only [if_neg h1, if_neg h2, if_neg h3, if_neg h4, if_pos h5] at k
    exact k
  by_cases h6 : x.toInt = 5
  · refine fl_Tq.swI (k := 5) rfl (fl_bo rfl) h6 rfl rfl ?_
    refine fl_Tq.stp (pc' := 114) (lv' := [some (.inr (.inr (.inl (76, 277)))), some (.inl x)]) (st' := [.inr (.inr (.inl (76, 277)))]) (m' := (f, l)) rfl rfl (fl_bo rfl) rfl ?_
    refine fl_Tq.stp (pc' := 117) (lv' := [some (.inr (.inr (.inl (76, 277)))), some (.inl x)]) (st' := [.inr (.inr (.inl (79, 280)))]) (m' := (f, l)) rfl rfl (fl_bo rfl) rfl ?_
    refine fl_Tq.cB (c := (6 : Int32)) rfl (by decide +kernel) (fl_bo rfl) ?_
    refine fl_Tq.ldV (p := 280) (τ := 79) (n := 29780) (z := (0, 0, 0)) (k := 6) (v := f 280 6) rfl (fl_bo rfl) rfl (by decide +kernel) (by decide) rfl ?_
    refine fl_Tq.ret rfl rfl rfl ?_
    unfold r_is_v at k
    simp only [if_neg h1, if_neg h2, if_neg h3, if_neg h4, if_neg h5, if_pos h6] at k
    exact k
  by_cases h7 : x.toInt = 6
  · refine fl_Tq.swI (k := 6) rfl (fl_bo rfl) h7 rfl rfl ?_
    refine fl_Tq.stp (pc' := 122) (lv' := [some (.inr (.inr (.inl (76, 277)))), some (.inl x)]) (st' := [.inr (.inr (.inl (76, 277)))]) (m' := (f, l)) rfl rfl (fl_bo rfl) rfl ?_
    refine fl_Tq.stp (pc' := 125) (lv' := [some (.inr (.inr (.inl (76, 277)))), some (.inl x)]) (st' := [.inr (.inr (.inl (79, 280)))]) (m' := (f, l)) rfl rfl (fl_bo rfl) rfl ?_
    refine fl_Tq.cB (c := (7 : Int32)) rfl (by decide +kernel) (fl_bo rfl) ?_
    refine fl_Tq.ldV (p := 280) (τ := 79) (n := 29780) (z := (0, 0, 0)) (k := 7) (v := f 280 7) rfl (fl_bo rfl) rfl (by decide +kernel) (by decide) rfl ?_
    refine fl_Tq.ret rfl rfl rfl ?_
    unfold r_is_v at k
    simp only [if_neg h1, if_neg h2, if_neg h3, if_neg h4, if_neg h5, if_neg h6, if_pos h7] at k
    exact k
  by_cases h8 : x.toInt = 7
  · refine fl_Tq.swI (k := 7) rfl (fl_bo rfl) h8 rfl rfl ?_
    refine fl_Tq.stp (pc' := 130) (lv' := [some (.inr (.inr (.inl (76, 277)))), some (.inl x)]) (st' := [.inr (.inr (.inl (76, 277)))]) (m' := (f, l)) rfl rfl (fl_bo rfl) rfl ?_
    refine fl_Tq.stp (pc' := 133) (lv' := [some (.inr (.inr (.inl (76, 277)))), some (.inl x)]) (st' := [.inr (.inr (.inl (79, 280)))]) (m' := (f, l)) rfl rfl (fl_bo rfl) rfl ?_
    refine fl_Tq.cB (c := (8 : Int32)) rfl (by decide +kernel) (fl_bo rfl) ?_
    refine fl_Tq.ldV (p := 280) (τ := 79) (n := 29780) (z := (0, 0, 0)) (k := 8) (v := f 280 8) rfl (fl_bo rfl) rfl (by decide +kernel) (by decide) rfl ?_
    refine fl_Tq.ret rfl rfl rfl ?_
    unfold r_is_v at k
    simp only [if_neg h1, if_neg h2, if_neg h3, if_neg h4, if_neg h5, if_neg h6, if_neg h7, if_pos h8] at k
    exact k
  by_cases h9 : x.toInt = 8
  · refine fl_Tq.swI (k := 8) rfl (fl_bo rfl) h9 rfl rfl ?_
    refine fl_Tq.stp (pc' := 138) (lv' := [some (.inr (.inr (.inl (76, 277)))), some (.inl x)]) (st' := [.inr (.inr (.inl (76, 277)))]) (m' := (f, l)) rfl rfl (fl_bo rfl) rfl ?_
    refine fl_Tq.stp (pc' := 141) (lv' := [some (.inr (.inr (.inl (76, 277)))), some (.inl x)]) (st' := [.inr (.inr (.inl (79, 280)))]) (m' := (f, l)) rfl rfl (fl_bo rfl) rfl ?_
    refine fl_Tq.cB (c := (9 : Int32)) rfl (by decide +kernel) (fl_bo rfl) ?_
    refine fl_Tq.ldV (p := 280) (τ := 79) (n := 29780) (z := (0, 0, 0)) (k := 9) (v := f 280 9) rfl (fl_bo rfl) rfl (by decide +kernel) (by decide) rfl ?_
    refine fl_Tq.ret rfl rfl rfl ?_
    unfold r_is_v at k
    simp only [if_neg h1, if_neg h2, if_neg h3, if_neg h4, if_neg h5, if_neg h6, if_neg h7, if_neg h8, if_pos h9] at k
    exact k
  by_cases h10 : x.toInt = 9
  · refine fl_Tq.swI (k := 9) rfl (fl_bo rfl) h10 rfl rfl ?_
    refine fl_Tq.stp (pc' := 146) (lv' := [some (.inr (.inr (.inl (76, 277)))), some (.inl x)]) (st' := [.inr (.inr (.inl (76, 277)))]) (m' := (f, l)) rfl rfl (fl_bo rfl) rfl ?_
    refine fl_Tq.stp (pc' := 149) (lv' := [some (.inr (.inr (.inl (76, 277)))), some (.inl x)]) (st' := [.inr (.inr (.inl (79, 280)))]) (m' := (f, l)) rfl rfl (fl_bo rfl) rfl ?_
    refine fl_Tq.cB (c := (10 : Int32)) rfl (by decide +kernel) (fl_bo rfl) ?_
    refine fl_Tq.ldV (p := 280) (τ := 79) (n := 29780) (z := (0, 0, 0)) (k := 10) (v := f 280 10) rfl (fl_bo rfl) rfl (by decide +kernel) (by decide) rfl ?_
    refine fl_Tq.ret rfl rfl rfl ?_
    unfold r_is_v at k
    simp only [if_neg h1, if_neg h2, if_neg h3, if_neg h4, if_neg h5, if_neg h6, if_neg h7, if_neg h8, if_neg h9, if_pos h10] at k
    exact k
  by_cases h11 : x.toInt = 10
  · refine fl_Tq.swI (k := 10) rfl (fl_bo rfl) h11 rfl rfl ?_
    refine fl_Tq.stp (pc' := 154) (lv' := [some (.inr (.inr (.inl (76, 277)))), some (.inl x)]) (st' := [.inr (.inr (.inl (76, 277)))]) (m' := (f, l)) rfl rfl (fl_bo rfl) rfl ?_
    refine fl_Tq.stp (pc' := 157) (lv' := [some (.inr (.inr (.inl (76, 277)))), some (.inl x)]) (st' := [.inr (.inr (.inl (79, 280)))]) (m' := (f, l)) rfl rfl (fl_bo rfl) rfl ?_
    refine fl_Tq.cB (c := (11 : Int32)) rfl (by decide +kernel) (fl_bo rfl) ?_
    refine fl_Tq.ldV (p := 280) (τ := 79) (n := 29780) (z := (0, 0, 0)) (k := 11) (v := f 280 11) rfl (fl_bo rfl) rfl (by decide +kernel) (by decide) rfl ?_
    refine fl_Tq.ret rfl rfl rfl ?_
    unfold r_is_v at k
    simp only [if_neg h1, if_neg h2, if_neg h3, if_neg h4, if_neg h5, if_neg h6, if_neg h7, if_neg h8, if_neg h9, if_neg h10, if_pos h11] at k
    exact k
  by_cases h12 : x.toInt = 11
  · refine fl_Tq.swI (k := 11) rfl (fl_bo rfl) h12 rfl rfl ?_
    refine fl_Tq.stp (pc' := 162) (lv' := [some (.inr (.inr (.inl (76, 277)))), some (.inl x)]) (st' := [.inr (.inr (.inl (76, 277)))]) (m' := (f, l)) rfl rfl (fl_bo rfl) rfl ?_
    refine fl_Tq.stp (pc' := 165) (lv' := [some (.inr (.inr (.inl (76, 277)))), some (.inl x)]) (st' := [.inr (.inr (.inl (79, 280)))]) (m' := (f, l)) rfl rfl (fl_bo rfl) rfl ?_
    refine fl_Tq.cB (c := (12 : Int32)) rfl (by decide +kernel) (fl_bo rfl) ?_
    refine fl_Tq.ldV (p := 280) (τ := 79) (n := 29780) (z := (0, 0, 0)) (k := 12) (v := f 280 12) rfl (fl_bo rfl) rfl (by decide +kernel) (by decide) rfl ?_
    refine fl_Tq.ret rfl rfl rfl ?_
    unfold r_is_v at k
    simp only [if_neg h1, if_neg h2, if_neg h3, if_neg h4, if_neg h5, if_neg h6, if_neg h7, if_neg h8, if_neg h9, if_neg h10, if_neg h11, if_pos h12] at k
    exact k
  by_cases h13 : x.toInt = 12
  · refine fl_Tq.swI (k := 12) rfl (fl_bo rfl) h13 rfl rfl ?_
    refine fl_Tq.stp (pc' := 170) (lv' := [some (.inr (.inr (.inl (76, 277)))), some (.inl x)]) (st' := [.inr (.inr (.inl (76, 277)))]) (m' := (f, l)) rfl rfl (fl_bo rfl) rfl ?_
    refine fl_Tq.stp (pc' := 173) (lv' := [some (.inr (.inr (.inl (76, 277)))), some (.inl x)]) (st' := [.inr (.inr (.inl (79, 280)))]) (m' := (f, l)) rfl rfl (fl_bo rfl) rfl ?_
    refine fl_Tq.cB (c := (19 : Int32)) rfl (by decide +kernel) (fl_bo rfl) ?_
    refine fl_Tq.ldV (p := 280) (τ := 79) (n := 29780) (z := (0, 0, 0)) (k := 19) (v := f 280 19) rfl (fl_bo rfl) rfl (by decide +kernel) (by decide) rfl ?_
    refine fl_Tq.ret rfl rfl rfl ?_
    unfold r_is_v at k
    simp only [if_neg h1, if_neg h2, if_neg h3, if_neg h4, if_neg h5, if_neg h6, if_neg h7, if_neg h8, if_neg h9, if_neg h10, if_neg h11, if_neg h12, if_pos h13] at k
    exact k
  by_cases h14 : x.toInt = 13
  · refine fl_Tq.swI (k := 13) rfl (fl_bo rfl) h14 rfl rfl ?_
    refine fl_Tq.stp (pc' := 178) (lv' := [some (.inr (.inr (.inl (76, 277)))), some (.inl x)]) (st' := [.inr (.inr (.inl (76, 277)))]) (m' := (f, l)) rfl rfl (fl_bo rfl) rfl ?_
    refine fl_Tq.stp (pc' := 181) (lv' := [some (.inr (.inr (.inl (76, 277)))), some (.inl x)]) (st' := [.inr (.inr (.inl (79, 280)))]) (m' := (f, l)) rfl rfl (fl_bo rfl) rfl ?_
    refine fl_Tq.cB (c := (13 : Int32)) rfl (by decide +kernel) (fl_bo rfl) ?_
    refine fl_Tq.ldV (p := 280) (τ := 79) (n := 29780) (z := (0, 0, 0)) (k := 13) (v := f 280 13) rfl (fl_bo rfl) rfl (by decide +kernel) (by decide) rfl ?_
    refine fl_Tq.ret rfl rfl rfl ?_
    unfold r_is_v at k
    simp only [if_neg h1, if_neg h2, if_neg h3, if_neg h4, if_neg h5, if_neg h6, if_neg h7, if_neg h8, if_neg h9, if_neg h10, if_neg h11, if_neg h12, if_neg h13, if_pos h14] at k
    exact k
  by_cases h15 : x.toInt = 14
  · refine fl_Tq.swI (k := 14) rfl (fl_bo rfl) h15 rfl rfl ?_
    refine fl_Tq.stp (pc' := 186) (lv' := [some (.inr (.inr (.inl (76, 277)))), some (.inl x)]) (st' := [.inr (.inr (.inl (76, 277)))]) (m' := (f, l)) rfl rfl (fl_bo rfl) rfl ?_
    refine fl_Tq.cal rfl rfl (fl_bo rfl) rfl ?_
    refine r_actual_q  ?_
    show fl_Tq _ 268 189 [some (.inr (.inr (.inl (76, 277)))), some (.inl x)] [.inl (r_actual_v f)] (f, l) _
    refine fl_Tq.ret rfl rfl rfl ?_
    unfold r_is_v at k
    simp only [if_neg h1, if_neg h2, if_neg h3, if_neg h4, if_neg h5, if_neg h6, if_neg h7, if_neg h8, if_neg h9, if_neg h10, if_neg h11, if_neg h12, if_neg h13, if_neg h14, if_pos h15] at k
    exact k
  by_cases h16 : x.toInt = 15
  · refine fl_Tq.swI (k := 15) rfl (fl_bo rfl) h16 rfl rfl ?_
    refine fl_Tq.stp (pc' := 191) (lv' := [some (.inr (.inr (.inl (76, 277)))), some (.inl x)]) (st' := [.inr (.inr (.inl (76, 277)))]) (m' := (f, l)) rfl rfl (fl_bo rfl) rfl ?_
    refine fl_Tq.stp (pc' := 194) (lv' := [some (.inr (.inr (.inl (76, 277)))), some (.inl x)]) (st' := [.inr (.inr (.inl (79, 280)))]) (m' := (f, l)) rfl rfl (fl_bo rfl) rfl ?_
    refine fl_Tq.cB (c := (17 : Int32)) rfl (by decide +kernel) (fl_bo rfl) ?_
    refine fl_Tq.ldV (p := 280) (τ := 79) (n := 29780) (z := (0, 0, 0)) (k := 17) (v := f 280 17) rfl (fl_bo rfl) rfl (by decide +kernel) (by decide) rfl ?_
    refine fl_Tq.ret rfl rfl rfl ?_
    unfold r_is_v at k
    simp only [if_neg h1, if_neg h2, if_neg h3, if_neg h4, if_neg h5, if_neg h6, if_neg h7, if_neg h8, if_neg h9, if_neg h10, if_neg h11, if_neg h12, if_neg h13, if_neg h14, if_neg h15, if_pos h16] at k
    exact k
  refine fl_Tq.swD rfl (fl_bo rfl) (by omega) rfl ?_
  refine fl_Tq.stp (pc' := 201) (lv' := [some (.inr (.inr (.inl (76, 277)))), some (.inl x)]) (st' := [.inl (-1000000000 : Int32)]) (m' := (f, l)) rfl rfl (fl_bo rfl) rfl ?_
  refine fl_Tq.ret rfl rfl rfl ?_
  unfold r_is_v at k
  simp only [if_neg h1, if_neg h2, if_neg h3, if_neg h4, if_neg h5, if_neg h6, if_neg h7, if_neg h8, if_neg h9, if_neg h10, if_neg h11, if_neg h12, if_neg h13, if_neg h14, if_neg h15, if_neg h16] at k
  exact k

end

/-! 91.16.join.lean.txt -/
section
/-! ===== two things said of one run: what a function leaves, and that it is good ===== -/
theorem t2_join {P : am_Pg} {mi pc : Nat} {lv : fl_L} {st : List fl_V} {m : fl_M} {Q1 Q2 : Option fl_V → fl_M → Prop} (h1 : fl_Tq P mi pc lv st m Q1) (h2 : fl_Tq P mi pc lv st m Q2) : fl_Tq P mi pc lv st m (fun v m' => Q1 v m' ∧ ∃ v2 m2, v.map fl_c = v2.map fl_c ∧ fl_H m' = fl_H m2 ∧ Q2 v2 m2) := by
  intro la hl
  obtain ⟨f1, w1, M1, e1, v1, m1, a1, b1, c1⟩ := h1 la hl
  obtain ⟨f2, w2, M2, e2, v2, m2, a2, b2, c2⟩ := h2 la hl
  have g1 := am_fuel f1 _ _ _ _ _ _ e1 (f1 + f2) (Nat.le_add_right _ _)
  have g2 := am_fuel f2 _ _ _ _ _ _ e2 (f1 + f2) (Nat.le_add_left _ _)
  have e := Option.some.inj (g1.symm.trans g2)
  have ev : w1 = w2 := congrArg Prod.fst e
  have em : M1 = M2 := congrArg Prod.snd e
  exact ⟨f1, w1, M1, e1, v1, m1, a1, b1, c1, v2, m2, a1.symm.trans (ev.trans a2), b1.symm.trans (em.trans b2), c2⟩
theorem t2_He {m m' : fl_M} (e : fl_H m = fl_H m') : m.2.2 = m'.2.2 ∧ ∀ p : Nat, p < fl_N m.2.2 → fl_ob (fk_kd (fk_K p)) p (m.1 p) (m.2.1 p) = fl_ob (fk_kd (fk_K p)) p (m'.1 p) (m'.2.1 p) := by
  have hl : fl_N m.2.2 = fl_N m'.2.2 := by
    have := congrArg (fun x : am_M => x.1.length) e
    simpa [fl_H] using this
  have hh : m.2.2 = m'.2.2 := by
    unfold fl_N at hl
    omega
  refine ⟨hh, fun p hp => ?_⟩
  have g1 := fl_get hp
  have g2 := fl_get (m := m') (p := p) (by rw [← hh]; exact hp)
  rw [e] at g1
  exact Option.some.inj (g1.symm.trans g2)
/-- a row of ints is the same whole -/
theorem t2_Hi {m m' : fl_M} (e : fl_H m = fl_H m') {p n : Nat} {z : Nat × Nat × Nat} (hp : p < 285) (hk : fk_kd (fk_K p) = .inr (0, n, z)) : m.1 p = m'.1 p := by
  have h := (t2_He e).2 p (by unfold fl_N; omega)
  rw [hk] at h
  injection h with h
  injection h with _ h
  injection h with _ h
  injection h
def t2_rgk : Bool := (List.range 84).all (fun t => (at_rg t).all (fun r => match fk_kd t with
  | .inl (_, fs) => decide (0 ≤ r.2.1 ∧ r.2.2.2.1 = 1 ∧ r.2.2.2.2.1 = 1) && decide (fs[r.2.1.toNat]? = some none)
  | .inr (t, _) => decide (t = 0)))
theorem t2_rgk_t : t2_rgk = true := by decide +kernel
theorem t2_HG {m m' : fl_M} (e : fl_H m = fl_H m') (h : at_RG m') : at_RG m := by
  intro p hp r hr j hj
  have hh := (t2_He e).1
  have ho := (t2_He e).2 p hp
  have hm := h p (by rw [← hh]; exact hp) r hr j hj
  suffices w : m.1 p j = m'.1 p j by rw [w]; exact hm
  have hk : fk_K p < 84 := by
    apply Classical.byContradiction
    intro hn
    have : at_rg (fk_K p) = [] := by
      exact at_rg_out (by omega)
    rw [this] at hr
    cases hr
  have hc := List.all_eq_true.mp (List.all_eq_true.mp t2_rgk_t (fk_K p) (List.mem_range.mpr hk)) r hr
  cases hkd : fk_kd (fk_K p) with
  | inl q =>
    obtain ⟨ci, fs⟩ := q
    rw [hkd] at hc ho
    simp only [Bool.and_eq_true, decide_eq_true_eq] at hc
    obtain ⟨⟨c1, c2, c3⟩, c4⟩ := hc
    obtain ⟨o, i, o1, o2, i1, i2, hj⟩ := hj
    have ho0 : o = 0 := by omega
    have hi0 : i = 0 := by omega
    rw [ho0, hi0, Int.mul_zero, Int.add_zero, Int.add_zero] at hj
    have ej : r.2.1.toNat = j := by omega
    rw [ej] at c4
    unfold fl_ob at ho
    injection ho with ho
    injection ho with _ ho
    have h1 := congrArg (fun l : List Value => l[j]?) ho
    simp only [List.getElem?_mapIdx, c4, Option.map_some, fl_fv] at h1
    injection h1 with h1
    injection h1
  | inr q =>
    obtain ⟨t, n, z⟩ := q
    rw [hkd] at hc ho
    simp only [decide_eq_true_eq] at hc
    subst hc
    injection ho with ho
    injection ho with _ ho
    injection ho with _ ho
    injection ho with ho
    rw [ho]
theorem t2_HL {m m' : fl_M} (e : fl_H m = fl_H m') {ν : Nat → Int} {b : List (Nat × at_A)} (h : at_RL ν b m') : at_RL ν b m := by
  have h0 : m.1 280 = m'.1 280 := t2_Hi e (n := 29780) (z := (0, 0, 0)) (by decide) (by decide +kernel)
  unfold at_RL at_w at h ⊢
  rw [h0]
  exact h
theorem t2_Hr {m m' : fl_M} (e : fl_H m = fl_H m') {q : Nat} (hq : q = 272 ∨ q = 274) (i : Nat) (hi : i < 20) : (if m.1 q i = 0 then none else some (m.1 q i).toNatClampNeg) = (if m'.1 q i = 0 then none else some (m'.1 q i).toNatClampNeg) := by
  have hk : fk_kd (fk_K q) = .inr (4, 20, 25, 0, 0) := by
    rcases hq with h | h <;> rw [h] <;> decide +kernel
  have h := (t2_He e).2 q (by unfold fl_N; omega)
  rw [hk] at h
  unfold fl_ob at h
  injection h with h
  injection h with _ h
  injection h with _ h
  injection h with h
  injection h with h
  injection h with h
  injection h with h
  have h1 := congrFun h i
  simp only [hi, if_true] at h1
  exact h1
theorem t2_cnt {m m' : fl_M} {q : Nat} (h : ∀ i : Nat, i < 20 → (m.1 q i = 0 ↔ m'.1 q i = 0)) : at_cnt m q = at_cnt m' q := by
  have e : (List.range 20).map (at_nzr m q) = (List.range 20).map (at_nzr m' q) := by
    refine List.map_congr_left (fun i hi => ?_)
    have z := h i (List.mem_range.mp hi)
    unfold at_nzr
    by_cases c : m'.1 q i = 0
    · rw [if_pos c, if_pos (z.mpr c)]
    · rw [if_neg c, if_neg (fun k => c (z.mp k))]
  exact congrArg List.sum e
theorem t2_HXI {m m' : fl_M} (e : fl_H m = fl_H m') (h : at_XI m') (hu : ∀ p, fl_N m.2.2 ≤ p → ∀ i, m.1 p i = at_W0 ((p - 285) % 90) i) : at_XI m := by
  have hh := (t2_He e).1
  have e280 : m.1 280 = m'.1 280 := t2_Hi e (n := 29780) (z := (0, 0, 0)) (by decide) (by decide +kernel)
  have e281 : m.1 281 = m'.1 281 := t2_Hi e (n := 29780) (z := (0, 0, 0)) (by decide) (by decide +kernel)
  have e283 : m.1 283 = m'.1 283 := t2_Hi e (n := 1418) (z := (0, 0, 0)) (by decide) (by decide +kernel)
  have e278 : m.1 278 = m'.1 278 := t2_Hi e (n := 90) (z := (0, 0, 0)) (by decide) (by decide +kernel)
  have e279 : m.1 279 = m'.1 279 := t2_Hi e (n := 11) (z := (0, 0, 0)) (by decide) (by decide +kernel)
  obtain ⟨h1, h2, h3, h4, h5, h6, h7, h8⟩ := h
  have hz : ∀ q, q = 272 ∨ q = 274 → ∀ i, i < 20 → (m.1 q i = 0 ↔ m'.1 q i = 0) ∧ (m'.1 q i ≠ 0 → (m.1 q i).toInt.toNat = (m'.1 q i).toInt.toNat) := by
    intro q hq i hi
    have a := t2_Hr e hq i hi
    by_cases c1 : m.1 q i = 0
    · rw [if_pos c1] at a
      by_cases c2 : m'.1 q i = 0
      · exact ⟨⟨fun _ => c2, fun _ => c1⟩, fun h => absurd c2 h⟩
      · rw [if_neg c2] at a
        cases a
    · rw [if_neg c1] at a
      by_cases c2 : m'.1 q i = 0
      · rw [if_pos c2] at a
        cases a
      · rw [if_neg c2] at a
        exact ⟨⟨fun h => absurd h c1, fun h => absurd h c2⟩, fun _ => Option.some.inj a⟩
  refine ⟨fun q hq i hi => ?_, ?_, hu, ?_, ?_, ?_, ?_, ?_⟩
  · obtain ⟨z1, z2⟩ := hz q hq i hi
    rcases h1 q hq i hi with c | ⟨j, j1, j2⟩
    · exact Or.inl (z1.mpr c)
    · right
      have hne : m'.1 q i ≠ 0 := by
        intro c
        rw [c] at j2
        have : (0 : Int32).toInt = 0 := rfl
        omega
      exact ⟨j, by rw [hh]; exact j1, by have := z2 hne; omega⟩
  · have hc : ∀ q, q = 272 ∨ q = 274 → at_cnt m q = at_cnt m' q := fun q hq => t2_cnt (fun i hi => (hz q hq i hi).1)
    exact (congrArg (fun x => x + at_cnt m 274) (hc 272 (Or.inl rfl))).trans ((congrArg (fun x => at_cnt m' 272 + x) (hc 274 (Or.inr rfl))).trans (h2.trans hh.symm))
  · rw [e283]
    exact h4
  · rw [e280]
    exact h5
  · rw [e281]
    exact h6
  · rw [e281]
    exact h7
  · intro p j hp
    rw [← h8 p j hp]
    rcases hp with hp | hp <;> rw [hp]
    · rw [e278]
    · rw [e279]
theorem t2_Good {m m' : fl_M} (e : fl_H m = fl_H m') (h : at_Good at_XI m') (hu : ∀ p, fl_N m.2.2 ≤ p → ∀ i, m.1 p i = at_W0 ((p - 285) % 90) i) : at_Good at_XI m := ⟨t2_HG e h.1, t2_HL e h.2.1, t2_HXI e h.2.2 hu⟩

end

/-! 91.17.use.lean.txt -/
section
/-! ===== a contract and what its method is as a function: one end ===== -/
/-- a word of its own: an int field, a row of ints -/
def t2_iw (p j : Nat) : Bool := match fk_kd (fk_K p) with
  | .inl (_, fs) => (match fs[j]? with
    | some none => true
    | _ => false)
  | .inr (t, _) => Nat.beq t 0
theorem t2_Hw {m m' : fl_M} (e : fl_H m = fl_H m') {p j : Nat} (hp : p < fl_N m.2.2) (hw : t2_iw p j = true) : m.1 p j = m'.1 p j := by
  have ho := (t2_He e).2 p hp
  unfold t2_iw at hw
  cases hkd : fk_kd (fk_K p) with
  | inl q =>
    obtain ⟨ci, fs⟩ := q
    rw [hkd] at hw ho
    have c4 : fs[j]? = some none := by
      dsimp only at hw
      split at hw
      · rename_i h; exact h
      · cases hw
    unfold fl_ob at ho
    injection ho with ho
    injection ho with _ ho
    have h1 := congrArg (fun l : List Value => l[j]?) ho
    simp only [List.getElem?_mapIdx, c4, Option.map_some, fl_fv] at h1
    injection h1 with h1
    injection h1
  | inr q =>
    obtain ⟨t, n, z⟩ := q
    rw [hkd] at hw ho
    have ht : t = 0 := Nat.eq_of_beq_eq_true hw
    subst ht
    injection ho with ho
    injection ho with _ ho
    injection ho with _ ho
    injection ho with ho
    rw [ho]
/-- the words are those that a function leaves -/
def t2_E (m : fl_M) (g : t2_F) : Prop := ∀ p j : Nat, p < fl_N m.2.2 → t2_iw p j = true → m.1 p j = g p j
section T2USE
variable {L : Nat} {xs : Nat → Int32}
def t2_P (c : at_C) (m : fl_M) (g : t2_F) (v : Option fl_V) (v2 : Option fl_V) (m2 : fl_M) : Prop := at_Good at_XI m2 ∧ at_MD m m2 c.2.2.2.2.2 ∧ at_rtc c.2.2.2.1 c.2.2.2.2.1 m2 v2 ∧ v2.map fl_c = v.map fl_c ∧ m2.2.2 = m.2.2 ∧ t2_E m2 g
theorem t2_use {c : at_C} {as_ : List fl_V} {m : fl_M} {g : t2_F} {v : Option fl_V} (hv : at_Valid at_XI (pw_P L xs) c) (hg : at_Good at_XI m) (hk : at_agk m.2.2 c.2.1 as_) (hlt : ∀ q ∈ c.2.2.1, at_ltc m as_ q) (hq : ∀ Q : Option fl_V → fl_M → Prop, Q v (g, m.2) → fl_Tq (pw_P L xs) c.1 0 (fl_args (am_mxl (pw_P L xs) c.1) as_) [] m Q) : fl_Tq (pw_P L xs) c.1 0 (fl_args (am_mxl (pw_P L xs) c.1) as_) [] m (t2_P c m g v) := by
  refine fl_Tq.mono (t2_join (hv m as_ hg hk hlt) (hq (fun v' m' => v' = v ∧ m' = (g, m.2)) ⟨rfl, rfl⟩)) ?_
  intro v2 m2 h
  obtain ⟨⟨a, b, c⟩, v3, m3, e1, e2, e3, e4⟩ := h
  subst e3 e4
  exact ⟨a, b, c, e1, (t2_He e2).1, fun p j hp hw => t2_Hw e2 hp hw⟩
theorem t2_vi {x : Int32} {v : Option fl_V} {m : fl_M} {lo hi : Int} {lt : Bool} (h : at_rtc (some (.inr (false, lo, hi))) lt m v) (e : v.map fl_c = (some (.inl x) : Option fl_V).map fl_c) : v = some (.inl x) ∧ lo ≤ x.toInt ∧ x.toInt ≤ hi := by
  obtain ⟨y, rfl, h1, h2, -⟩ := h
  have e : some (fl_c (.inl y)) = some (fl_c (.inl x)) := e
  injection e with e
  have e : Value.int y = Value.int x := e
  injection e with e
  subst e
  exact ⟨rfl, h1, h2⟩
theorem t2_vn {v : Option fl_V} {m : fl_M} {lt : Bool} (h : at_rtc none lt m v) : v = none := h
end T2USE
/-- nothing written of words lo .. hi of a kind -/
def t2_nw (ws : List at_W) (k : Nat) (lo hi : Int) : Bool := ws.all (fun w => !(Nat.beq w.1 k) || (bif w.2.1 then (decide (0 ≤ w.2.2.1) && decide (w.2.2.2 ≤ 60)) && (decide (hi < 444) || decide (1420 ≤ lo)) else (decide (w.2.2.2 < lo) || decide (hi < w.2.2.1))))
theorem t2_fr {m0 m : fl_M} {ws : List at_W} (h : at_MD m0 m ws) {p j k : Nat} (lo hi : Int) (hk : fk_K p = k) (hc : t2_nw ws k lo hi = true) (h1 : lo ≤ (j : Int)) (h2 : (j : Int) ≤ hi) : m.1 p j = m0.1 p j := by
  apply Classical.byContradiction
  intro hne
  obtain ⟨w, hw, e, hcv⟩ := h.2 p j hne
  have hb := List.all_eq_true.mp hc w hw
  rw [hk] at e
  rw [e, Nat.beq_refl, Bool.not_true, Bool.false_or] at hb
  cases hw2 : w.2.1 with
  | true =>
    rw [hw2] at hb hcv
    simp only [cond_true, Bool.and_eq_true, Bool.or_eq_true, decide_eq_true_eq] at hb
    rw [if_pos rfl] at hcv
    obtain ⟨o, o1, o2, o3, o4⟩ := hcv
    omega
  | false =>
    rw [hw2] at hb hcv
    simp only [cond_false, Bool.or_eq_true, decide_eq_true_eq] at hb
    rw [if_neg Bool.false_ne_true] at hcv
    omega
/-- nothing written of words w .. w' of the reference's cells -/
def t2_nwC (ws : List at_W) (lo hi : Int) : Bool := ws.all (fun x => !(Nat.beq x.1 79) || (bif x.2.1 then (decide (0 ≤ x.2.2.1) && decide (x.2.2.2 ≤ 60)) && (decide (x.2.2.2 < lo) || decide (hi < x.2.2.1)) else (decide (x.2.2.2 < 444) || decide (1420 ≤ x.2.2.1))))
theorem t2_frC {m0 m : fl_M} {ws : List at_W} (h : at_MD m0 m ws) {C w : Nat} (lo hi : Int) (hC : C < 16) (hw : w < 61) (hc : t2_nwC ws lo hi = true) (h1 : lo ≤ (w : Int)) (h2 : (w : Int) ≤ hi) : m.1 280 (444 + 61 * C + w) = m0.1 280 (444 + 61 * C + w) := by
  apply Classical.byContradiction
  intro hne
  obtain ⟨x, hx, e, hcv⟩ := h.2 280 _ hne
  have hb := List.all_eq_true.mp hc x hx
  rw [fk_K_280] at e
  rw [e, Nat.beq_refl, Bool.not_true, Bool.false_or] at hb
  cases hw2 : x.2.1 with
  | true =>
    rw [hw2] at hb hcv
    simp only [cond_true, Bool.and_eq_true, Bool.or_eq_true, decide_eq_true_eq] at hb
    rw [if_pos rfl] at hcv
    obtain ⟨o, o1, o2, o3, o4⟩ := hcv
    omega
  | false =>
    rw [hw2] at hb hcv
    simp only [cond_false, Bool.or_eq_true, decide_eq_true_eq] at hb
    rw [if_neg Bool.false_ne_true] at hcv
    omega
/-- the kinds of a block's cells -/
theorem t2_kK {C : Nat} (hC : C < 16) : fk_K (18 + 4 * C) = 18 ∧ fk_K (19 + 4 * C) = 19 ∧ fk_K (20 + 4 * C) = 20 ∧ fk_K (21 + 4 * C) = 21 := by
  have H : (List.range 16).all (fun i => Nat.beq (fk_K (18 + 4 * i)) 18 && Nat.beq (fk_K (19 + 4 * i)) 19 && Nat.beq (fk_K (20 + 4 * i)) 20 && Nat.beq (fk_K (21 + 4 * i)) 21) = true := by decide +kernel
  have h := List.all_eq_true.mp H C (List.mem_range.mpr hC)
  simp only [Bool.and_eq_true] at h
  obtain ⟨⟨⟨a, b⟩, c⟩, d⟩ := h
  exact ⟨Nat.eq_of_beq_eq_true a, Nat.eq_of_beq_eq_true b, Nat.eq_of_beq_eq_true c, Nat.eq_of_beq_eq_true d⟩
theorem t2_iwC {C j : Nat} (hC : C < 16) (hj : j < 19) : t2_iw (18 + 4 * C) j = true := by
  unfold t2_iw
  rw [(t2_kK hC).1]
  have H : (List.range 19).all (fun j => match fk_kd 18 with
    | .inl (_, fs) => (match fs[j]? with
      | some none => true
      | _ => false)
    | .inr (t, _) => Nat.beq t 0) = true := by decide +kernel
  exact List.all_eq_true.mp H j (List.mem_range.mpr hj)
theorem t2_iwT {C j : Nat} (hC : C < 16) : t2_iw (19 + 4 * C) 2 = true ∧ t2_iw (20 + 4 * C) j = true ∧ t2_iw (21 + 4 * C) j = true := by
  unfold t2_iw
  rw [(t2_kK hC).2.1, (t2_kK hC).2.2.1, (t2_kK hC).2.2.2]
  exact ⟨rfl, rfl, rfl⟩

end

/-! 92.00.num.lean.txt -/
section
/-! ===== what the two programs reckon alike: numbers ===== -/
theorem t2_msb (x : Int32) : x.toBitVec.msb = decide (x.toInt < 0) := BitVec.msb_eq_toInt
theorem t2_xs {x y : Int32} (hy : 0 ≤ y.toInt) : (x ^^^ y).toInt < 0 ↔ x.toInt < 0 := by
  have h1 := t2_msb (x ^^^ y)
  have h2 := t2_msb x
  have h3 := t2_msb y
  rw [decide_eq_false (by omega)] at h3
  have e : (x ^^^ y).toBitVec = x.toBitVec ^^^ y.toBitVec := rfl
  rw [e, BitVec.msb_xor, h2, h3, Bool.xor_false] at h1
  constructor
  · intro h
    rw [decide_eq_true h] at h1
    exact of_decide_eq_true h1
  · intro h
    rw [decide_eq_true h] at h1
    exact of_decide_eq_true h1.symm
theorem t2_divn {x y : Int32} (hx : x.toInt < 0) (hy : 0 < y.toInt) : (x / y).toInt = -((-x.toInt) / y.toInt) := by
  have b := at_i32 x
  generalize hn : -x.toInt = n
  have hx' : x.toInt = -n := by omega
  rw [Int32.toInt_div, hx', Int.neg_tdiv, Int.tdiv_eq_ediv_of_nonneg (by omega)]
  have h1 : n / y.toInt ≤ n := Int.ediv_le_self _ (by omega)
  have h2 : 0 ≤ n / y.toInt := Int.ediv_nonneg (by omega) (by omega)
  exact Int.bmod_eq_of_le (by omega) (by omega)
theorem t2_flo1000 {x : Int32} (h : -2147482000 ≤ x.toInt) : r_floor_v x (1000 : Int32) = t2_fdiv_v x (1000 : Int32) := by
  have e : (1000 : Int32).toInt = 1000 := by decide +kernel
  have e1 : (1 : Int32).toInt = 1 := by decide +kernel
  unfold r_floor_v t2_fdiv_v
  by_cases hx : x.toInt < 0
  · rw [if_pos hx, if_pos ((t2_xs (by omega)).mpr hx)]
    have d := t2_divn hx (show 0 < (1000 : Int32).toInt by omega)
    rw [e] at d
    have b1 : ((1000 : Int32) - (1 : Int32)).toInt = 999 := by decide +kernel
    have b2 : ((1000 : Int32) - (1 : Int32) - x).toInt = 999 - x.toInt := by rw [at_sub32] <;> rw [b1] <;> omega
    have d2 := at_div32 (x := (1000 : Int32) - (1 : Int32) - x) (y := (1000 : Int32)) (by omega) (by omega)
    rw [b2, e] at d2
    have m : ((x / (1000 : Int32)) * (1000 : Int32)).toInt = (x / (1000 : Int32)).toInt * 1000 := by rw [at_mul32] <;> rw [e] <;> omega
    have ng : (-(((1000 : Int32) - (1 : Int32) - x) / (1000 : Int32))).toInt = -((999 - x.toInt) / 1000) := by
      rw [Int32.toInt_neg, d2]
      exact Int.bmod_eq_of_le (by omega) (by omega)
    refine Int32.toInt.inj ?_
    rw [ng]
    split
    · rename_i h1
      rw [m, d] at h1
      rw [d]
      omega
    · rename_i h1
      rw [m, d] at h1
      rw [at_sub32] <;> rw [d, e1] <;> omega
  · rw [if_neg hx, if_neg (fun h' => hx ((t2_xs (by omega)).mp h'))]
theorem t2_flo2 {x : Int32} (h : -2147482000 ≤ x.toInt) : r_floor_v x (2 : Int32) = t2_fdiv_v x (2 : Int32) := by
  have e : (2 : Int32).toInt = 2 := by decide +kernel
  have e1 : (1 : Int32).toInt = 1 := by decide +kernel
  unfold r_floor_v t2_fdiv_v
  by_cases hx : x.toInt < 0
  · rw [if_pos hx, if_pos ((t2_xs (by omega)).mpr hx)]
    have d := t2_divn hx (show 0 < (2 : Int32).toInt by omega)
    rw [e] at d
    have b1 : ((2 : Int32) - (1 : Int32)).toInt = 1 := by decide +kernel
    have b2 : ((2 : Int32) - (1 : Int32) - x).toInt = 1 - x.toInt := by rw [at_sub32] <;> rw [b1] <;> omega
    have d2 := at_div32 (x := (2 : Int32) - (1 : Int32) - x) (y := (2 : Int32)) (by omega) (by omega)
    rw [b2, e] at d2
    have m : ((x / (2 : Int32)) * (2 : Int32)).toInt = (x / (2 : Int32)).toInt * 2 := by rw [at_mul32] <;> rw [e] <;> omega
    have ng : (-(((2 : Int32) - (1 : Int32) - x) / (2 : Int32))).toInt = -((1 - x.toInt) / 2) := by
      rw [Int32.toInt_neg, d2]
      exact Int.bmod_eq_of_le (by omega) (by omega)
    refine Int32.toInt.inj ?_
    rw [ng]
    split
    · rename_i h1
      rw [m, d] at h1
      rw [d]
      omega
    · rename_i h1
      rw [m, d] at h1
      rw [at_sub32] <;> rw [d, e1] <;> omega
  · rw [if_neg hx, if_neg (fun h' => hx ((t2_xs (by omega)).mp h'))]
theorem t2_les (x y : Int32) : r_lesser_v x y = t2_min_v x y := by
  unfold r_lesser_v t2_min_v
  by_cases h : x.toInt < y.toInt
  · rw [if_pos h, if_neg (by omega)]
  · by_cases h2 : y.toInt < x.toInt
    · rw [if_neg h, if_pos h2]
    · rw [if_neg h, if_neg h2]
      exact Int32.toInt.inj (by omega)
theorem t2_min_i (x y : Int32) : (t2_min_v x y).toInt = min x.toInt y.toInt := by
  unfold t2_min_v
  split <;> omega
theorem t2_max_i (x y : Int32) : (t2_max_v x y).toInt = max x.toInt y.toInt := by
  unfold t2_max_v
  split <;> omega
theorem t2_min_c (x y : Int32) : t2_min_v x y = t2_min_v y x := Int32.toInt.inj (by rw [t2_min_i, t2_min_i]; omega)
theorem t2_min_a (x y z : Int32) : t2_min_v (t2_min_v x y) z = t2_min_v x (t2_min_v y z) := Int32.toInt.inj (by simp only [t2_min_i]; omega)
theorem t2_m32 (x y : Int32) : x * y = y * x := Int32.mul_comm x y
theorem t2_lim1 (a b : Int32) : t2_max_v (0 : Int32) (t2_min_v (2147483647 : Int32) (t2_min_v a b)) = if (t2_min_v a b).toInt < 0 then (0 : Int32) else t2_min_v a b := by
  have e0 : (0 : Int32).toInt = 0 := rfl
  have e1 : (2147483647 : Int32).toInt = 2147483647 := by decide +kernel
  have ha := at_i32 a
  have hm := t2_min_i a b
  generalize t2_min_v a b = q at hm
  have hq := at_i32 q
  refine Int32.toInt.inj ?_
  rw [t2_max_i, t2_min_i, e0, e1]
  split
  · rw [e0]
    omega
  · omega
theorem t2_lim2 (a b z : Int32) : t2_max_v (0 : Int32) (t2_min_v z (t2_min_v a b)) = if (t2_min_v (t2_min_v a b) z).toInt < 0 then (0 : Int32) else t2_min_v (t2_min_v a b) z := by
  have e0 : (0 : Int32).toInt = 0 := rfl
  refine Int32.toInt.inj ?_
  rw [t2_max_i, t2_min_c z, e0]
  split
  · rw [e0]
    omega
  · omega
theorem t2_lim3 {z : Int32} (hz : 0 ≤ z.toInt) : (0 : Int32) = if (t2_min_v (0 : Int32) z).toInt < 0 then (0 : Int32) else t2_min_v (0 : Int32) z := by
  have e0 : (0 : Int32).toInt = 0 := rfl
  refine Int32.toInt.inj ?_
  have h := t2_min_i (0 : Int32) z
  split
  · rfl
  · omega

end

/-! 92.01.rw.lean.txt -/
section
theorem r_goBus_w2 {f : t2_F} (j : Nat) : r_goBus_m f 280 j = if j = 4 then r_goBus_j16_0 f else if j = 3 then (if (f 280 3).toInt = (1 : Int32).toInt then (if ((1000 : Int32) * (r_goBus_j16_0 f)).toInt < ((950 : Int32) * (r_packCalm_v f)).toInt then f 280 3 else (2 : Int32)) else f 280 3) else f 280 j := by
  unfold r_goBus_m
  by_cases h1 : (f 280 3).toInt = (1 : Int32).toInt
  · simp only [if_pos h1]
    by_cases h2 : ((1000 : Int32) * (r_goBus_j16_0 f)).toInt < ((950 : Int32) * (r_packCalm_v f)).toInt
    · simp only [if_pos h2]
      split
      all_goals
        simp only [fl_row_ne (by decide : (280 : Nat) ≠ 277), fl_row_self, upd]
        repeat' split
        all_goals first | rfl | simp_all
    · simp only [if_neg h2, fl_row_self, upd]
      repeat' split
      all_goals first | rfl | simp_all
  · simp only [if_neg h1, fl_row_ne (by decide : (280 : Nat) ≠ 277), fl_row_self, upd]
    repeat' split
    all_goals first | rfl | simp_all

end

/-! 92.02.read.lean.txt -/
section
/-! ===== block 0: what is read of the two states is the same ===== -/
def c0_Rc (fc fr : t2_F) (C : Nat) : Prop :=
  (fc (18 + 4 * C) 0 = fr 280 (444 + 61 * C + 0) ∧ fc (18 + 4 * C) 1 = fr 280 (444 + 61 * C + 6) ∧ fc (18 + 4 * C) 2 = fr 280 (444 + 61 * C + 1)) ∧
  (fc (18 + 4 * C) 3 = r_partOf_v fr 0 C ∧ fc (18 + 4 * C) 4 = t2_rb (r_partOf_v fr 0 C)) ∧
  (fc (18 + 4 * C) 5 = fr 280 (444 + 61 * C + 2) ∧ fc (18 + 4 * C) 6 = fr 280 (444 + 61 * C + 3) ∧ fc (18 + 4 * C) 7 = fr 280 (444 + 61 * C + 9)) ∧
  fc (18 + 4 * C) 8 = fr 280 (444 + 61 * C + 4) ∧ fc (18 + 4 * C) 9 = fr 280 (444 + 61 * C + 5) ∧ fc (18 + 4 * C) 18 = fr 280 (444 + 61 * C + 60)
/-- settings, contactors, zones -/
def c0_Rs (fc fr : t2_F) : Prop := ∀ k : Nat, k < 30 → fc 4 k = fr 280 (34 + k)
def c0_Rk (fc fr : t2_F) : Prop := ∀ k : Nat, k < 3 → fc 5 k = fr 280 (64 + k)
def c0_Rz (fc fr : t2_F) : Prop := fc 3 6 = fr 280 17 ∧ (∀ k : Nat, k < 12 → fc 7 k = fr 280 (67 + k)) ∧ ∀ k : Nat, k < 6 → 0 ≤ (fr 280 (67 + 2 * k + 1)).toInt
section C0READ
variable {fc fr : t2_F} {C : Nat} {c x : Int32}
theorem c0_calm_eq (h : c0_Rc fc fr C) : fc (18 + 4 * C) 4 + fc (18 + 4 * C) 7 = r_calmVolts_v fr c C := by
  obtain ⟨-, ⟨-, h4⟩, ⟨-, -, h7⟩, -⟩ := h
  rw [h4, h7]
  rfl
/-- what a current makes over a cell's ohms isn't too far below 0 -/
def t2_far (x o : Int32) : Prop := -2147482000 ≤ (x * o).toInt
theorem t2_far_ok {x o : Int32} (hx : -99999 ≤ x.toInt ∧ x.toInt ≤ 99999) (ho : 0 ≤ o.toInt ∧ o.toInt ≤ 99) : t2_far x o := by
  have h1 : (99999 : Int) * 99 = 9899901 := by decide
  have h2 : x.toInt * o.toInt ≤ 99999 * 99 := Int.le_trans (Int.mul_le_mul_of_nonneg_right hx.2 ho.1) (Int.mul_le_mul_of_nonneg_left ho.2 (by omega))
  have h3 : (-99999) * o.toInt ≤ x.toInt * o.toInt := Int.mul_le_mul_of_nonneg_right hx.1 ho.1
  unfold t2_far
  rw [at_mul32] <;> omega
theorem c0_volts_eq (h : c0_Rc fc fr C) (hf : t2_far (fr 280 5) (fr 280 (444 + 61 * C + 2))) : c0_voltsAt_v fc C (fr 280 5) = r_voltsOf_v fr c C := by
  have e := c0_calm_eq (c := c) h
  obtain ⟨-, -, ⟨h5, -, -⟩, -⟩ := h
  unfold c0_voltsAt_v r_voltsOf_v
  rw [e, h5, t2_flo1000 hf]
theorem t2_fdiv0 : t2_fdiv_v (0 : Int32) (1000 : Int32) = 0 := by
  unfold t2_fdiv_v
  have e : ((0 : Int32) ^^^ (1000 : Int32)).toInt = 1000 := by decide +kernel
  rw [e, if_neg (by omega)]
  decide +kernel
theorem c0_volts0_eq (h : c0_Rc fc fr C) : c0_voltsAt_v fc C (0 : Int32) = r_calmVolts_v fr c C := by
  have e := c0_calm_eq (c := c) h
  unfold c0_voltsAt_v
  rw [e, Int32.zero_mul, t2_fdiv0, Int32.add_zero]
theorem c0_pack_eq {n : Nat} (h : ∀ C : Nat, C < n → c0_Rc fc fr C ∧ t2_far (fr 280 5) (fr 280 (444 + 61 * C + 2))) : c0_packAt_a4 fc (fr 280 5) n = r_pack_a4 fr n := by
  induction n with
  | zero => rfl
  | succ n ih =>
    have hn := h n (by omega)
    show c0_packAt_a4 fc (fr 280 5) n + c0_voltsAt_v fc n (fr 280 5) = r_pack_a4 fr n + r_voltsOf_v fr (Int32.ofNat n) n
    rw [ih (fun C hC => h C (by omega)), c0_volts_eq hn.1 hn.2]
theorem c0_packCalm_eq {n : Nat} (h : ∀ C : Nat, C < n → c0_Rc fc fr C) : c0_packAt_a4 fc (0 : Int32) n = r_packCalm_a4 fr n := by
  induction n with
  | zero => rfl
  | succ n ih =>
    have hn := h n (by omega)
    show c0_packAt_a4 fc (0 : Int32) n + c0_voltsAt_v fc n (0 : Int32) = r_packCalm_a4 fr n + r_calmVolts_v fr (Int32.ofNat n) n
    rw [ih (fun C hC => h C (by omega)), c0_volts0_eq hn]
theorem c0_least_eq {n : Nat} (h : ∀ C : Nat, C < n → c0_Rc fc fr C) : c0_leastPart_a6 fc n = r_leastPart_a6 fr n := by
  induction n with
  | zero => rfl
  | succ n ih =>
    obtain ⟨-, ⟨h3, -⟩, -⟩ := h n (by omega)
    show t2_min_v (c0_leastPart_a6 fc n) (fc (18 + 4 * n) 3) = r_lesser_v (r_leastPart_a6 fr n) (r_partOf_v fr (Int32.ofNat n) n)
    rw [ih (fun C hC => h C (by omega)), h3, t2_les]
    rfl
/-- the contactors -/
theorem c0_ordered_eq (hs : fc 1 7 = fr 280 3) : c0_orderedBits_v fc = r_ordered_v fr := by
  unfold c0_orderedBits_v c0_orderedBits_j14_0 r_ordered_v r_ordered_j6_0
  rw [hs]
theorem c0_ordered_in : c0_orderedBits_v fc = 0 ∨ c0_orderedBits_v fc = 3 ∨ c0_orderedBits_v fc = 5 := by
  unfold c0_orderedBits_v c0_orderedBits_j14_0
  split
  · exact Or.inl rfl
  · split
    · exact Or.inr (Or.inl rfl)
    · exact Or.inr (Or.inr rfl)
/-- how a contactor is stuck: 0, 1, 2 -/
def t2_how (x : Int32) : Prop := x = 0 ∨ x = 1 ∨ x = 2
theorem c0_actual_eq (hs : fc 1 7 = fr 280 3) (hk : c0_Rk fc fr) (hw : ∀ k : Nat, k < 3 → t2_how (fr 280 (64 + k))) : c0_actualBits_v fc = r_actual_v fr := by
  have e := c0_ordered_eq hs
  have k0 := hk 0 (by omega)
  have k1 := hk 1 (by omega)
  have k2 := hk 2 (by omega)
  have w0 := hw 0 (by omega)
  have w1 := hw 1 (by omega)
  have w2 := hw 2 (by omega)
  have o := c0_ordered_in (fc := fc)
  unfold c0_actualBits_v r_actual_v
  simp only [c0_actualBits_a7, r_actual_a4, k0, k1, k2, ← e]
  generalize c0_orderedBits_v fc = q at o
  generalize fr 280 (64 + 0) = a at w0
  generalize fr 280 (64 + 1) = b at w1
  generalize fr 280 (64 + 2) = d at w2
  rcases o with rfl | rfl | rfl <;> rcases w0 with rfl | rfl | rfl <;> rcases w1 with rfl | rfl | rfl <;> rcases w2 with rfl | rfl | rfl <;> decide +kernel
theorem c0_live_eq (hs : fc 1 7 = fr 280 3) (hk : c0_Rk fc fr) (hw : ∀ k : Nat, k < 3 → t2_how (fr 280 (64 + k))) : c0_areActual_v fc (5 : Int32) = r_isLive_v fr := by
  unfold c0_areActual_v r_isLive_v
  rw [c0_actual_eq hs hk hw]
/-- limits -/
theorem c0_zone_eq (hz : c0_Rz fc fr) {n : Nat} (hn : n ≤ 6) (w : Int32) (hx : w = fr 280 (444 + 61 * C + 3)) : (c0_zoneCurrent_a5 fc w n = (2147483647 : Int32) ∧ r_limitBy_a84 fr c C x n = (-1 : Int32)) ∨ (c0_zoneCurrent_a5 fc w n = r_limitBy_a84 fr c C x n ∧ 0 ≤ (r_limitBy_a84 fr c C x n).toInt) := by
  induction n with
  | zero => exact Or.inl ⟨rfl, rfl⟩
  | succ n ih =>
    have ih := ih (by omega)
    have e0 : fc 7 (2 * n) = fr 280 (67 + (2 * n)) := hz.2.1 (2 * n) (by omega)
    have e1 : fc 7 (2 * n + 1) = fr 280 ((67 + (2 * n)) + 1) := hz.2.1 (2 * n + 1) (by omega)
    have e2 := hz.2.2 n (by omega)
    unfold c0_zoneCurrent_a5 r_limitBy_a84
    rw [e0, e1, hx]
    by_cases hc : (fr 280 (444 + 61 * C + 3)).toInt < (fr 280 (67 + (2 * n))).toInt
    · rw [if_pos hc, if_pos hc, ← hx]
      exact ih
    · rw [if_neg hc, if_neg hc]
      exact Or.inr ⟨rfl, e2⟩
theorem c0_own_eq (h : c0_Rc fc fr C) (hs : c0_Rs fc fr) (hz : c0_Rz fc fr) (hz6 : 0 ≤ (fr 280 17).toInt ∧ (fr 280 17).toInt ≤ 6) : c0_ownLimit_v fc C x = r_limitBy_v fr c C x := by
  have s0 : fc 4 0 = fr 280 34 := hs 0 (by omega)
  have s1 : fc 4 1 = fr 280 35 := hs 1 (by omega)
  have s2 : fc 4 2 = fr 280 36 := hs 2 (by omega)
  have s3 : fc 4 3 = fr 280 37 := hs 3 (by omega)
  have s5 : fc 4 5 = fr 280 39 := hs 5 (by omega)
  have e := c0_calm_eq (c := c) h
  obtain ⟨-, -, ⟨-, h6, -⟩, -⟩ := h
  have zz := c0_zone_eq (C := C) (c := c) (x := x) hz (n := (fr 280 17).toInt.toNat) (by omega) (fc (18 + 4 * C) 6) h6
  have m1 : (-1 : Int32).toInt = -1 := by decide +kernel
  unfold c0_ownLimit_v r_limitBy_v r_limitBy_j151_0 r_limitBy_j137_0 r_limitBy_j63_0 r_limitBy_j8_0 c0_zoneCurrent_v
  rw [hz.1, s0, s1, s2, s3, s5, e, h6, t2_m32 (500 : Int32)]
  rw [h6] at zz
  simp only [t2_les]
  by_cases hx : x.toInt = 0
  · simp only [if_pos hx]
    by_cases hc : (fr 280 (444 + 61 * C + 3)).toInt < (fr 280 37).toInt
    · simp only [if_pos hc]
      rcases zz with ⟨-, z2⟩ | ⟨-, z2⟩
      · simp only [z2, if_pos]
        rfl
      · simp only [if_neg (show ¬ (r_limitBy_a84 fr c C x ((fr 280 17).toInt.toNat)).toInt = (-1 : Int32).toInt by omega)]
        exact t2_lim3 z2
    · simp only [if_neg hc]
      rcases zz with ⟨z1, z2⟩ | ⟨z1, z2⟩
      · simp only [z1, z2, if_pos]
        exact t2_lim1 _ _
      · simp only [z1, if_neg (show ¬ (r_limitBy_a84 fr c C x ((fr 280 17).toInt.toNat)).toInt = (-1 : Int32).toInt by omega)]
        exact t2_lim2 _ _ _
  · simp only [if_neg hx]
    rcases zz with ⟨z1, z2⟩ | ⟨z1, z2⟩
    · simp only [z1, z2, if_pos]
      exact t2_lim1 _ _
    · simp only [z1, if_neg (show ¬ (r_limitBy_a84 fr c C x ((fr 280 17).toInt.toNat)).toInt = (-1 : Int32).toInt by omega)]
      exact t2_lim2 _ _ _
theorem c0_own_nn : 0 ≤ (c0_ownLimit_v fc C x).toInt := by
  have e0 : (0 : Int32).toInt = 0 := rfl
  unfold c0_ownLimit_v
  repeat' split
  · omega
  · rw [t2_max_i, e0]
    omega
  · rw [t2_max_i, e0]
    omega
theorem c0_worst_eq {n : Nat} (hn : n ≤ 16) (h : ∀ C : Nat, C < n → ∀ c : Int32, c0_ownLimit_v fc C x = r_limitBy_v fr c C x) : (c0_worstCell_a8 fc x n).1 = r_tightest_a4 fr x n ∧ ((n = 0 ∧ r_tightest_a4 fr x n = (-1 : Int32)) ∨ ∃ j : Nat, j < n ∧ r_tightest_a4 fr x n = Int32.ofNat j ∧ (c0_worstCell_a8 fc x n).2 = c0_ownLimit_v fc j x) := by
  have m1 : (-1 : Int32).toInt = -1 := by decide +kernel
  induction n with
  | zero => exact ⟨rfl, Or.inl ⟨rfl, rfl⟩⟩
  | succ n ih =>
    obtain ⟨e1, e2⟩ := ih (by omega) (fun C hC => h C (by omega))
    have hw := h n (by omega)
    have en : (Int32.ofNat n).toInt = n := at_ofN (by omega)
    unfold c0_worstCell_a8 r_tightest_a4
    rw [e1]
    rcases e2 with ⟨rfl, e2⟩ | ⟨j, hj, e2, e3⟩
    · simp only [e2, if_pos]
      exact ⟨trivial, Or.inr ⟨0, by omega, rfl, rfl⟩⟩
    · have ej : (Int32.ofNat j).toInt = j := at_ofN (by omega)
      have ejn : (Int32.ofNat j).toInt.toNat = j := by omega
      have hwj := h j (by omega) (Int32.ofNat j)
      rw [e2, e3]
      simp only [if_neg (show ¬ (Int32.ofNat j).toInt = (-1 : Int32).toInt by omega), ejn]
      rw [← hw, ← hwj]
      by_cases hl : (c0_ownLimit_v fc n x).toInt < (c0_ownLimit_v fc j x).toInt
      · simp only [if_pos hl]
        exact ⟨trivial, Or.inr ⟨n, by omega, rfl, rfl⟩⟩
      · simp only [if_neg hl]
        exact ⟨trivial, Or.inr ⟨j, by omega, rfl, rfl⟩⟩
theorem c0_limit_eq {n : Nat} (hn : n ≤ 16) (h : ∀ C : Nat, C < n → ∀ c : Int32, c0_ownLimit_v fc C x = r_limitBy_v fr c C x) : r_limitOf_a8 fr x n = if n = 0 then fr 280 38 else t2_min_v (fr 280 38) (c0_worstCell_a8 fc x n).2 := by
  have m1 : (-1 : Int32).toInt = -1 := by decide +kernel
  induction n with
  | zero => rfl
  | succ n ih =>
    have ih := ih (by omega) (fun C hC => h C (by omega))
    have hw := h n (by omega) (Int32.ofNat n)
    have ww := c0_worst_eq (fc := fc) (fr := fr) (x := x) (n := n) (by omega) (fun C hC => h C (by omega))
    rw [if_neg (by omega)]
    show r_lesser_v (r_limitOf_a8 fr x n) (r_limitBy_v fr (Int32.ofNat n) n x) = _
    have ew : (c0_worstCell_a8 fc x (n + 1)).2 = if ((c0_worstCell_a8 fc x n).1).toInt = (-1 : Int32).toInt then c0_ownLimit_v fc n x else (if (c0_ownLimit_v fc n x).toInt < ((c0_worstCell_a8 fc x n).2).toInt then c0_ownLimit_v fc n x else (c0_worstCell_a8 fc x n).2) := rfl
    rw [ih, ← hw, t2_les, ew]
    rcases ww.2 with ⟨h0, e2⟩ | ⟨j, hj, e2, e3⟩
    · have hne : ((c0_worstCell_a8 fc x n).1).toInt = (-1 : Int32).toInt := by rw [ww.1, e2]
      rw [if_pos h0, if_pos hne]
    · have ej : (Int32.ofNat j).toInt = j := at_ofN (by omega)
      have hne : ¬ ((c0_worstCell_a8 fc x n).1).toInt = (-1 : Int32).toInt := by
        rw [ww.1, e2]
        omega
      rw [if_neg (show ¬ n = 0 by omega), if_neg hne, t2_min_a]
      rfl
/-- (1) of a second: the bus -/
theorem c0_bus_eq {n : Nat} (hn : (fc 1 5).toInt = n) (hn2 : fc 1 5 = fr 280 2) (hC : ∀ C : Nat, C < n → c0_Rc fc fr C) (hst : fc 1 7 = fr 280 3) (hb : fc 1 8 = fr 280 4) (hs : c0_Rs fc fr) (hk : c0_Rk fc fr) (hw : ∀ k : Nat, k < 3 → t2_how (fr 280 (64 + k))) (bb : -1000000000 ≤ (fr 280 4).toInt ∧ (fr 280 4).toInt ≤ 1000000000) (bp : -1000000000 ≤ (r_packCalm_v fr).toInt ∧ (r_packCalm_v fr).toInt ≤ 1000000000) : c0_packAt_v fc (0 : Int32) = r_packCalm_v fr ∧ c0_moveBus_j16_0 fc = r_goBus_j16_0 fr := by
  have e0 : (0 : Int32).toInt = 0 := rfl
  have e3 : (3 : Int32).toInt = 3 := by decide +kernel
  have e03 : ((0 : Int32) + (3 : Int32)) / (4 : Int32) = 0 := by decide +kernel
  have s7 : fc 4 7 = fr 280 41 := hs 7 (by omega)
  have hp : c0_packAt_v fc (0 : Int32) = r_packCalm_v fr := by
    unfold c0_packAt_v r_packCalm_v
    rw [← hn2, hn, Int.toNat_natCast]
    exact c0_packCalm_eq hC
  refine ⟨hp, ?_⟩
  have hl := c0_live_eq hst hk hw
  have ha := c0_actual_eq hst hk hw
  unfold c0_moveBus_j16_0 r_goBus_j16_0
  rw [hl, hp, hb, s7]
  have h3 : c0_areActual_v fc (3 : Int32) = if ((r_actual_v fr) &&& (3 : Int32)).toInt = (3 : Int32).toInt then (1 : Int32) else (0 : Int32) := by
    unfold c0_areActual_v
    rw [ha]
  rw [h3]
  by_cases h1 : (r_isLive_v fr).toInt = 0
  · rw [if_pos h1, if_pos h1]
    by_cases h2 : ((r_actual_v fr) &&& (3 : Int32)).toInt = (3 : Int32).toInt
    · rw [if_pos h2, if_pos h2, if_neg (by decide +kernel)]
      have hd : (r_packCalm_v fr - fr 280 4).toInt = (r_packCalm_v fr).toInt - (fr 280 4).toInt := at_sub32 (by omega) (by omega)
      have hj : (t2_max_v (r_packCalm_v fr - fr 280 4) (0 : Int32) + (3 : Int32)) / (4 : Int32) = r_goBus_j41_0 fr := by
        unfold r_goBus_j41_0 t2_max_v
        by_cases hlt : (fr 280 4).toInt < (r_packCalm_v fr).toInt
        · rw [if_pos hlt, if_neg (by omega)]
        · rw [if_neg hlt]
          by_cases hlt2 : (r_packCalm_v fr - fr 280 4).toInt < (0 : Int32).toInt
          · rw [if_pos hlt2]
            exact e03
          · rw [if_neg hlt2]
            have : r_packCalm_v fr - fr 280 4 = 0 := Int32.toInt.inj (by omega)
            rw [this]
            exact e03
      rw [hj]
      unfold r_goBus_j78_0 t2_max_v
      rfl
    · rw [if_neg h2, if_neg h2, if_pos e0, t2_flo2 (by omega)]
  · rw [if_neg h1, if_neg h1]
end C0READ
/-- what (1) leaves: words -/
theorem c0_moveBus_w {f : t2_F} (j : Nat) : c0_moveBus_m f 1 j = if j = 8 then c0_moveBus_j16_0 f else if j = 7 then (if (f 1 7).toInt = (1 : Int32).toInt then (if ((c0_moveBus_j16_0 f) * (1000 : Int32)).toInt < ((950 : Int32) * (c0_packAt_v f (0 : Int32))).toInt then f 1 7 else (2 : Int32)) else f 1 7) else f 1 j := by
  unfold c0_moveBus_m
  by_cases h1 : (f 1 7).toInt = (1 : Int32).toInt
  · simp only [if_pos h1]
    by_cases h2 : ((c0_moveBus_j16_0 f) * (1000 : Int32)).toInt < ((950 : Int32) * (c0_packAt_v f (0 : Int32))).toInt
    · simp only [if_pos h2]
      split
      all_goals
        simp only [fl_row_self, upd]
        repeat' split
        all_goals first | rfl | simp_all
    · simp only [if_neg h2, fl_row_self, upd]
      repeat' split
      all_goals first | rfl | simp_all
  · simp only [if_neg h1, fl_row_self, upd]
    repeat' split
    all_goals first | rfl | simp_all

/-! ===== block 2: what is read of the two states is the same ===== -/
def c2_Rc (fc fr : t2_F) (C : Nat) : Prop :=
  (fc (198 + 4 * C) 0 = fr 280 (444 + 61 * C + 0) ∧ fc (198 + 4 * C) 1 = fr 280 (444 + 61 * C + 6) ∧ fc (198 + 4 * C) 2 = fr 280 (444 + 61 * C + 1)) ∧
  (fc (198 + 4 * C) 3 = r_partOf_v fr 0 C ∧ fc (198 + 4 * C) 4 = t2_rb (r_partOf_v fr 0 C)) ∧
  (fc (198 + 4 * C) 5 = fr 280 (444 + 61 * C + 2) ∧ fc (198 + 4 * C) 6 = fr 280 (444 + 61 * C + 3) ∧ fc (198 + 4 * C) 7 = fr 280 (444 + 61 * C + 9)) ∧
  fc (198 + 4 * C) 8 = fr 280 (444 + 61 * C + 4) ∧ fc (198 + 4 * C) 9 = fr 280 (444 + 61 * C + 5) ∧ fc (198 + 4 * C) 18 = fr 280 (444 + 61 * C + 60)
def c2_Rs (fc fr : t2_F) : Prop := ∀ k : Nat, k < 30 → fc 184 k = fr 280 (34 + k)
def c2_Rk (fc fr : t2_F) : Prop := ∀ k : Nat, k < 3 → fc 185 k = fr 280 (64 + k)
def c2_Rz (fc fr : t2_F) : Prop := fc 183 6 = fr 280 17 ∧ (∀ k : Nat, k < 12 → fc 187 k = fr 280 (67 + k)) ∧ ∀ k : Nat, k < 6 → 0 ≤ (fr 280 (67 + 2 * k + 1)).toInt
section C2READ
variable {fc fr : t2_F} {C : Nat} {c x : Int32}
theorem c2_calm_eq (h : c2_Rc fc fr C) : fc (198 + 4 * C) 4 + fc (198 + 4 * C) 7 = r_calmVolts_v fr c C := by
  obtain ⟨-, ⟨-, h4⟩, ⟨-, -, h7⟩, -⟩ := h
  rw [h4, h7]
  rfl
theorem c2_volts_eq (h : c2_Rc fc fr C) (hf : t2_far (fr 280 5) (fr 280 (444 + 61 * C + 2))) : c2_voltsAt_v fc C (fr 280 5) = r_voltsOf_v fr c C := by
  have e := c2_calm_eq (c := c) h
  obtain ⟨-, -, ⟨h5, -, -⟩, -⟩ := h
  unfold c2_voltsAt_v r_voltsOf_v
  rw [e, h5, t2_flo1000 hf]
theorem c2_volts0_eq (h : c2_Rc fc fr C) : c2_voltsAt_v fc C (0 : Int32) = r_calmVolts_v fr c C := by
  have e := c2_calm_eq (c := c) h
  unfold c2_voltsAt_v
  rw [e, Int32.zero_mul, t2_fdiv0, Int32.add_zero]
theorem c2_pack_eq {n : Nat} (h : ∀ C : Nat, C < n → c2_Rc fc fr C ∧ t2_far (fr 280 5) (fr 280 (444 + 61 * C + 2))) : c2_packAt_a4 fc (fr 280 5) n = r_pack_a4 fr n := by
  induction n with
  | zero => rfl
  | succ n ih =>
    have hn := h n (by omega)
    show c2_packAt_a4 fc (fr 280 5) n + c2_voltsAt_v fc n (fr 280 5) = r_pack_a4 fr n + r_voltsOf_v fr (Int32.ofNat n) n
    rw [ih (fun C hC => h C (by omega)), c2_volts_eq hn.1 hn.2]
theorem c2_packCalm_eq {n : Nat} (h : ∀ C : Nat, C < n → c2_Rc fc fr C) : c2_packAt_a4 fc (0 : Int32) n = r_packCalm_a4 fr n := by
  induction n with
  | zero => rfl
  | succ n ih =>
    have hn := h n (by omega)
    show c2_packAt_a4 fc (0 : Int32) n + c2_voltsAt_v fc n (0 : Int32) = r_packCalm_a4 fr n + r_calmVolts_v fr (Int32.ofNat n) n
    rw [ih (fun C hC => h C (by omega)), c2_volts0_eq hn]
theorem c2_least_eq {n : Nat} (h : ∀ C : Nat, C < n → c2_Rc fc fr C) : c2_leastPart_a6 fc n = r_leastPart_a6 fr n := by
  induction n with
  | zero => rfl
  | succ n ih =>
    obtain ⟨-, ⟨h3, -⟩, -⟩ := h n (by omega)
    show t2_min_v (c2_leastPart_a6 fc n) (fc (198 + 4 * n) 3) = r_lesser_v (r_leastPart_a6 fr n) (r_partOf_v fr (Int32.ofNat n) n)
    rw [ih (fun C hC => h C (by omega)), h3, t2_les]
    rfl
theorem c2_ordered_eq (hs : fc 181 7 = fr 280 3) : c2_orderedBits_v fc = r_ordered_v fr := by
  unfold c2_orderedBits_v c2_orderedBits_j14_0 r_ordered_v r_ordered_j6_0
  rw [hs]
theorem c2_ordered_in : c2_orderedBits_v fc = 0 ∨ c2_orderedBits_v fc = 3 ∨ c2_orderedBits_v fc = 5 := by
  unfold c2_orderedBits_v c2_orderedBits_j14_0
  split
  · exact Or.inl rfl
  · split
    · exact Or.inr (Or.inl rfl)
    · exact Or.inr (Or.inr rfl)
theorem c2_actual_eq (hs : fc 181 7 = fr 280 3) (hk : c2_Rk fc fr) (hw : ∀ k : Nat, k < 3 → t2_how (fr 280 (64 + k))) : c2_actualBits_v fc = r_actual_v fr := by
  have e := c2_ordered_eq hs
  have k0 := hk 0 (by omega)
  have k1 := hk 1 (by omega)
  have k2 := hk 2 (by omega)
  have w0 := hw 0 (by omega)
  have w1 := hw 1 (by omega)
  have w2 := hw 2 (by omega)
  have o := c2_ordered_in (fc := fc)
  unfold c2_actualBits_v r_actual_v
  simp only [c2_actualBits_a7, r_actual_a4, k0, k1, k2, ← e]
  generalize c2_orderedBits_v fc = q at o
  generalize fr 280 (64 + 0) = a at w0
  generalize fr 280 (64 + 1) = b at w1
  generalize fr 280 (64 + 2) = d at w2
  rcases o with rfl | rfl | rfl <;> rcases w0 with rfl | rfl | rfl <;> rcases w1 with rfl | rfl | rfl <;> rcases w2 with rfl | rfl | rfl <;> decide +kernel
theorem c2_live_eq (hs : fc 181 7 = fr 280 3) (hk : c2_Rk fc fr) (hw : ∀ k : Nat, k < 3 → t2_how (fr 280 (64 + k))) : c2_areActual_v fc (5 : Int32) = r_isLive_v fr := by
  unfold c2_areActual_v r_isLive_v
  rw [c2_actual_eq hs hk hw]
theorem c2_zone_eq (hz : c2_Rz fc fr) {n : Nat} (hn : n ≤ 6) (w : Int32) (hx : w = fr 280 (444 + 61 * C + 3)) : (c2_zoneCurrent_a5 fc w n = (2147483647 : Int32) ∧ r_limitBy_a84 fr c C x n = (-1 : Int32)) ∨ (c2_zoneCurrent_a5 fc w n = r_limitBy_a84 fr c C x n ∧ 0 ≤ (r_limitBy_a84 fr c C x n).toInt) := by
  induction n with
  | zero => exact Or.inl ⟨rfl, rfl⟩
  | succ n ih =>
    have ih := ih (by omega)
    have e0 : fc 187 (2 * n) = fr 280 (67 + (2 * n)) := hz.2.1 (2 * n) (by omega)
    have e1 : fc 187 (2 * n + 1) = fr 280 ((67 + (2 * n)) + 1) := hz.2.1 (2 * n + 1) (by omega)
    have e2 := hz.2.2 n (by omega)
    unfold c2_zoneCurrent_a5 r_limitBy_a84
    rw [e0, e1, hx]
    by_cases hc : (fr 280 (444 + 61 * C + 3)).toInt < (fr 280 (67 + (2 * n))).toInt
    · rw [if_pos hc, if_pos hc, ← hx]
      exact ih
    · rw [if_neg hc, if_neg hc]
      exact Or.inr ⟨rfl, e2⟩
theorem c2_own_eq (h : c2_Rc fc fr C) (hs : c2_Rs fc fr) (hz : c2_Rz fc fr) (hz6 : 0 ≤ (fr 280 17).toInt ∧ (fr 280 17).toInt ≤ 6) : c2_ownLimit_v fc C x = r_limitBy_v fr c C x := by
  have s0 : fc 184 0 = fr 280 34 := hs 0 (by omega)
  have s1 : fc 184 1 = fr 280 35 := hs 1 (by omega)
  have s2 : fc 184 2 = fr 280 36 := hs 2 (by omega)
  have s3 : fc 184 3 = fr 280 37 := hs 3 (by omega)
  have s5 : fc 184 5 = fr 280 39 := hs 5 (by omega)
  have e := c2_calm_eq (c := c) h
  obtain ⟨-, -, ⟨-, h6, -⟩, -⟩ := h
  have zz := c2_zone_eq (C := C) (c := c) (x := x) hz (n := (fr 280 17).toInt.toNat) (by omega) (fc (198 + 4 * C) 6) h6
  have m1 : (-1 : Int32).toInt = -1 := by decide +kernel
  unfold c2_ownLimit_v r_limitBy_v r_limitBy_j151_0 r_limitBy_j137_0 r_limitBy_j63_0 r_limitBy_j8_0 c2_zoneCurrent_v
  rw [hz.1, s0, s1, s2, s3, s5, e, h6, t2_m32 (500 : Int32)]
  rw [h6] at zz
  simp only [t2_les]
  by_cases hx : x.toInt = 0
  · simp only [if_pos hx]
    by_cases hc : (fr 280 (444 + 61 * C + 3)).toInt < (fr 280 37).toInt
    · simp only [if_pos hc]
      rcases zz with ⟨-, z2⟩ | ⟨-, z2⟩
      · simp only [z2, if_pos]
        rfl
      · simp only [if_neg (show ¬ (r_limitBy_a84 fr c C x ((fr 280 17).toInt.toNat)).toInt = (-1 : Int32).toInt by omega)]
        exact t2_lim3 z2
    · simp only [if_neg hc]
      rcases zz with ⟨z1, z2⟩ | ⟨z1, z2⟩
      · simp only [z1, z2, if_pos]
        exact t2_lim1 _ _
      · simp only [z1, if_neg (show ¬ (r_limitBy_a84 fr c C x ((fr 280 17).toInt.toNat)).toInt = (-1 : Int32).toInt by omega)]
        exact t2_lim2 _ _ _
  · simp only [if_neg hx]
    rcases zz with ⟨z1, z2⟩ | ⟨z1, z2⟩
    · simp only [z1, z2, if_pos]
      exact t2_lim1 _ _
    · simp only [z1, if_neg (show ¬ (r_limitBy_a84 fr c C x ((fr 280 17).toInt.toNat)).toInt = (-1 : Int32).toInt by omega)]
      exact t2_lim2 _ _ _
theorem c2_own_nn : 0 ≤ (c2_ownLimit_v fc C x).toInt := by
  have e0 : (0 : Int32).toInt = 0 := rfl
  unfold c2_ownLimit_v
  repeat' split
  · omega
  · rw [t2_max_i, e0]
    omega
  · rw [t2_max_i, e0]
    omega
theorem c2_worst_eq {n : Nat} (hn : n ≤ 16) (h : ∀ C : Nat, C < n → ∀ c : Int32, c2_ownLimit_v fc C x = r_limitBy_v fr c C x) : (c2_worstCell_a8 fc x n).1 = r_tightest_a4 fr x n ∧ ((n = 0 ∧ r_tightest_a4 fr x n = (-1 : Int32)) ∨ ∃ j : Nat, j < n ∧ r_tightest_a4 fr x n = Int32.ofNat j ∧ (c2_worstCell_a8 fc x n).2 = c2_ownLimit_v fc j x) := by
  have m1 : (-1 : Int32).toInt = -1 := by decide +kernel
  induction n with
  | zero => exact ⟨rfl, Or.inl ⟨rfl, rfl⟩⟩
  | succ n ih =>
    obtain ⟨e1, e2⟩ := ih (by omega) (fun C hC => h C (by omega))
    have hw := h n (by omega)
    have en : (Int32.ofNat n).toInt = n := at_ofN (by omega)
    unfold c2_worstCell_a8 r_tightest_a4
    rw [e1]
    rcases e2 with ⟨rfl, e2⟩ | ⟨j, hj, e2, e3⟩
    · simp only [e2, if_pos]
      exact ⟨trivial, Or.inr ⟨0, by omega, rfl, rfl⟩⟩
    · have ej : (Int32.ofNat j).toInt = j := at_ofN (by omega)
      have ejn : (Int32.ofNat j).toInt.toNat = j := by omega
      have hwj := h j (by omega) (Int32.ofNat j)
      rw [e2, e3]
      simp only [if_neg (show ¬ (Int32.ofNat j).toInt = (-1 : Int32).toInt by omega), ejn]
      rw [← hw, ← hwj]
      by_cases hl : (c2_ownLimit_v fc n x).toInt < (c2_ownLimit_v fc j x).toInt
      · simp only [if_pos hl]
        exact ⟨trivial, Or.inr ⟨n, by omega, rfl, rfl⟩⟩
      · simp only [if_neg hl]
        exact ⟨trivial, Or.inr ⟨j, by omega, rfl, rfl⟩⟩
theorem c2_limit_eq {n : Nat} (hn : n ≤ 16) (h : ∀ C : Nat, C < n → ∀ c : Int32, c2_ownLimit_v fc C x = r_limitBy_v fr c C x) : r_limitOf_a8 fr x n = if n = 0 then fr 280 38 else t2_min_v (fr 280 38) (c2_worstCell_a8 fc x n).2 := by
  have m1 : (-1 : Int32).toInt = -1 := by decide +kernel
  induction n with
  | zero => rfl
  | succ n ih =>
    have ih := ih (by omega) (fun C hC => h C (by omega))
    have hw := h n (by omega) (Int32.ofNat n)
    have ww := c2_worst_eq (fc := fc) (fr := fr) (x := x) (n := n) (by omega) (fun C hC => h C (by omega))
    rw [if_neg (by omega)]
    show r_lesser_v (r_limitOf_a8 fr x n) (r_limitBy_v fr (Int32.ofNat n) n x) = _
    have ew : (c2_worstCell_a8 fc x (n + 1)).2 = if ((c2_worstCell_a8 fc x n).1).toInt = (-1 : Int32).toInt then c2_ownLimit_v fc n x else (if (c2_ownLimit_v fc n x).toInt < ((c2_worstCell_a8 fc x n).2).toInt then c2_ownLimit_v fc n x else (c2_worstCell_a8 fc x n).2) := rfl
    rw [ih, ← hw, t2_les, ew]
    rcases ww.2 with ⟨h0, e2⟩ | ⟨j, hj, e2, e3⟩
    · have hne : ((c2_worstCell_a8 fc x n).1).toInt = (-1 : Int32).toInt := by rw [ww.1, e2]
      rw [if_pos h0, if_pos hne]
    · have ej : (Int32.ofNat j).toInt = j := at_ofN (by omega)
      have hne : ¬ ((c2_worstCell_a8 fc x n).1).toInt = (-1 : Int32).toInt := by
        rw [ww.1, e2]
        omega
      rw [if_neg (show ¬ n = 0 by omega), if_neg hne, t2_min_a]
      rfl
theorem c2_bus_eq {n : Nat} (hn : (fc 181 5).toInt = n) (hn2 : fc 181 5 = fr 280 2) (hC : ∀ C : Nat, C < n → c2_Rc fc fr C) (hst : fc 181 7 = fr 280 3) (hb : fc 181 8 = fr 280 4) (hs : c2_Rs fc fr) (hk : c2_Rk fc fr) (hw : ∀ k : Nat, k < 3 → t2_how (fr 280 (64 + k))) (bb : -1000000000 ≤ (fr 280 4).toInt ∧ (fr 280 4).toInt ≤ 1000000000) (bp : -1000000000 ≤ (r_packCalm_v fr).toInt ∧ (r_packCalm_v fr).toInt ≤ 1000000000) : c2_packAt_v fc (0 : Int32) = r_packCalm_v fr ∧ c2_moveBus_j16_0 fc = r_goBus_j16_0 fr := by
  have e0 : (0 : Int32).toInt = 0 := rfl
  have e3 : (3 : Int32).toInt = 3 := by decide +kernel
  have e03 : ((0 : Int32) + (3 : Int32)) / (4 : Int32) = 0 := by decide +kernel
  have s7 : fc 184 7 = fr 280 41 := hs 7 (by omega)
  have hp : c2_packAt_v fc (0 : Int32) = r_packCalm_v fr := by
    unfold c2_packAt_v r_packCalm_v
    rw [← hn2, hn, Int.toNat_natCast]
    exact c2_packCalm_eq hC
  refine ⟨hp, ?_⟩
  have hl := c2_live_eq hst hk hw
  have ha := c2_actual_eq hst hk hw
  unfold c2_moveBus_j16_0 r_goBus_j16_0
  rw [hl, hp, hb, s7]
  have h3 : c2_areActual_v fc (3 : Int32) = if ((r_actual_v fr) &&& (3 : Int32)).toInt = (3 : Int32).toInt then (1 : Int32) else (0 : Int32) := by
    unfold c2_areActual_v
    rw [ha]
  rw [h3]
  by_cases h1 : (r_isLive_v fr).toInt = 0
  · rw [if_pos h1, if_pos h1]
    by_cases h2 : ((r_actual_v fr) &&& (3 : Int32)).toInt = (3 : Int32).toInt
    · rw [if_pos h2, if_pos h2, if_neg (by decide +kernel)]
      have hd : (r_packCalm_v fr - fr 280 4).toInt = (r_packCalm_v fr).toInt - (fr 280 4).toInt := at_sub32 (by omega) (by omega)
      have hj : (t2_max_v (r_packCalm_v fr - fr 280 4) (0 : Int32) + (3 : Int32)) / (4 : Int32) = r_goBus_j41_0 fr := by
        unfold r_goBus_j41_0 t2_max_v
        by_cases hlt : (fr 280 4).toInt < (r_packCalm_v fr).toInt
        · rw [if_pos hlt, if_neg (by omega)]
        · rw [if_neg hlt]
          by_cases hlt2 : (r_packCalm_v fr - fr 280 4).toInt < (0 : Int32).toInt
          · rw [if_pos hlt2]
            exact e03
          · rw [if_neg hlt2]
            have : r_packCalm_v fr - fr 280 4 = 0 := Int32.toInt.inj (by omega)
            rw [this]
            exact e03
      rw [hj]
      unfold r_goBus_j78_0 t2_max_v
      rfl
    · rw [if_neg h2, if_neg h2, if_pos e0, t2_flo2 (by omega)]
  · rw [if_neg h1, if_neg h1]
end C2READ
theorem c2_moveBus_w {f : t2_F} (j : Nat) : c2_moveBus_m f 181 j = if j = 8 then c2_moveBus_j16_0 f else if j = 7 then (if (f 181 7).toInt = (1 : Int32).toInt then (if ((c2_moveBus_j16_0 f) * (1000 : Int32)).toInt < ((950 : Int32) * (c2_packAt_v f (0 : Int32))).toInt then f 181 7 else (2 : Int32)) else f 181 7) else f 181 j := by
  unfold c2_moveBus_m
  by_cases h1 : (f 181 7).toInt = (1 : Int32).toInt
  · simp only [if_pos h1]
    by_cases h2 : ((c2_moveBus_j16_0 f) * (1000 : Int32)).toInt < ((950 : Int32) * (c2_packAt_v f (0 : Int32))).toInt
    · simp only [if_pos h2]
      split
      all_goals
        simp only [fl_row_self, upd]
        repeat' split
        all_goals first | rfl | simp_all
    · simp only [if_neg h2, fl_row_self, upd]
      repeat' split
      all_goals first | rfl | simp_all
  · simp only [if_neg h1, fl_row_self, upd]
    repeat' split
    all_goals first | rfl | simp_all

end
