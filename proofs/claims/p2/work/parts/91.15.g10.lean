noncomputable def r_chargeAt_v (f : t2_F) (c : Int32) (C : Nat) (x : Int32) : Int32 := ((((36 : Int64) * x.toInt64) * ((f 280 (444 + 61 * C + 0)).toInt64)) / (10 : Int64)).toInt32
theorem r_chargeAt_q {L : Nat} {xs : Nat → Int32} {f : t2_F} {l : t2_L} {Q : Option fl_V → fl_M → Prop} {c : Int32} {C : Nat} {x : Int32} (hc : c.toInt = (C : Int)) (hC : C < 16) (k : Q (some (.inl (r_chargeAt_v f c C x))) (f, l)) : fl_Tq (pw_P L xs) 199 0 (fl_args (am_mxl (pw_P L xs) 199) [.inr (.inr (.inl (76, 277))), .inl c, .inl x]) [] (f, l) Q := by
  refine fl_Tq.stp (pc' := 3) (lv' := [some (.inr (.inr (.inl (76, 277)))), some (.inl c), some (.inl x)]) (st' := [.inr (.inl (36 : Int64))]) (m' := (f, l)) rfl rfl (fl_bo rfl) rfl ?_
  refine fl_Tq.stp (pc' := 4) (lv' := [some (.inr (.inr (.inl (76, 277)))), some (.inl c), some (.inl x)]) (st' := [.inl x, .inr (.inl (36 : Int64))]) (m' := (f, l)) rfl rfl (fl_bo rfl) rfl ?_
  refine fl_Tq.stp (pc' := 5) (lv' := [some (.inr (.inr (.inl (76, 277)))), some (.inl c), some (.inl x)]) (st' := [.inr (.inl x.toInt64), .inr (.inl (36 : Int64))]) (m' := (f, l)) rfl rfl (fl_bo rfl) rfl ?_
  refine fl_Tq.stp (pc' := 6) (lv' := [some (.inr (.inr (.inl (76, 277)))), some (.inl c), some (.inl x)]) (st' := [.inr (.inl ((36 : Int64) * x.toInt64))]) (m' := (f, l)) rfl rfl (fl_bo rfl) rfl ?_
  refine fl_Tq.stp (pc' := 7) (lv' := [some (.inr (.inr (.inl (76, 277)))), some (.inl c), some (.inl x)]) (st' := [.inr (.inr (.inl (76, 277))), .inr (.inl ((36 : Int64) * x.toInt64))]) (m' := (f, l)) rfl rfl (fl_bo rfl) rfl ?_
  refine fl_Tq.stp (pc' := 8) (lv' := [some (.inr (.inr (.inl (76, 277)))), some (.inl c), some (.inl x)]) (st' := [.inl c, .inr (.inr (.inl (76, 277))), .inr (.inl ((36 : Int64) * x.toInt64))]) (m' := (f, l)) rfl rfl (fl_bo rfl) rfl ?_
  refine fl_Tq.cI (c := (0 : Int32)) rfl (by decide +kernel) (fl_bo rfl) ?_
  refine fl_Tq.cal rfl rfl (fl_bo rfl) rfl ?_
  refine t2_get (C := C) (W := 0) (v := f 280 (444 + 61 * C + 0)) hc (by decide +kernel) hC (by decide) rfl ?_
  show fl_Tq _ 199 12 [some (.inr (.inr (.inl (76, 277)))), some (.inl c), some (.inl x)] [.inl (f 280 (444 + 61 * C + 0)), .inr (.inl ((36 : Int64) * x.toInt64))] (f, l) _
  refine fl_Tq.stp (pc' := 13) (lv' := [some (.inr (.inr (.inl (76, 277)))), some (.inl c), some (.inl x)]) (st' := [.inr (.inl ((f 280 (444 + 61 * C + 0)).toInt64)), .inr (.inl ((36 : Int64) * x.toInt64))]) (m' := (f, l)) rfl rfl (fl_bo rfl) rfl ?_
  refine fl_Tq.stp (pc' := 14) (lv' := [some (.inr (.inr (.inl (76, 277)))), some (.inl c), some (.inl x)]) (st' := [.inr (.inl (((36 : Int64) * x.toInt64) * ((f 280 (444 + 61 * C + 0)).toInt64)))]) (m' := (f, l)) rfl rfl (fl_bo rfl) rfl ?_
  refine fl_Tq.stp (pc' := 17) (lv' := [some (.inr (.inr (.inl (76, 277)))), some (.inl c), some (.inl x)]) (st' := [.inr (.inl (10 : Int64)), .inr (.inl (((36 : Int64) * x.toInt64) * ((f 280 (444 + 61 * C + 0)).toInt64)))]) (m' := (f, l)) rfl rfl (fl_bo rfl) rfl ?_
  refine fl_Tq.dvJ rfl (fl_bo rfl) (by decide +kernel) ?_
  refine fl_Tq.stp (pc' := 19) (lv' := [some (.inr (.inr (.inl (76, 277)))), some (.inl c), some (.inl x)]) (st' := [.inl (((((36 : Int64) * x.toInt64) * ((f 280 (444 + 61 * C + 0)).toInt64)) / (10 : Int64)).toInt32)]) (m' := (f, l)) rfl rfl (fl_bo rfl) rfl ?_
  exact fl_Tq.ret rfl rfl rfl k
noncomputable def r_restNow_j32_0 (f : t2_F) (c : Int32) (C : Nat) : Int32 := if (f 280 (444 + 61 * C + 16)).toInt = (-1 : Int32).toInt then f 280 (444 + 61 * C + 12) else (if (r_size_v ((t2_pb (r_voltsOf_v f c C)) - (f 280 (444 + 61 * C + 16)))).toInt < (100 : Int32).toInt then f 280 (444 + 61 * C + 12) else (((1000 : Int64) * ((r_size_v (f 280 (444 + 61 * C + 13))).toInt64)) / (((3600 : Int32) * (r_size_v ((t2_pb (r_voltsOf_v f c C)) - (f 280 (444 + 61 * C + 16))))).toInt64)).toInt32)
noncomputable def r_restNow_m (f : t2_F) (c : Int32) (C : Nat) : t2_F := fl_row f 280 (upd (upd (upd (upd (f 280) (444 + 61 * C + 4) (r_chargeAt_v f c C (t2_pb (r_voltsOf_v f c C)))) (444 + 61 * C + 12) (r_restNow_j32_0 f c C)) (444 + 61 * C + 16) (t2_pb (r_voltsOf_v f c C))) (444 + 61 * C + 13) (0 : Int32))
theorem r_restNow_fr {f : t2_F} {c : Int32} {C : Nat} {p : Nat}  (e280 : p ≠ 280) : r_restNow_m f c C p = f p := by
  unfold r_restNow_m
  repeat' split
  all_goals first | rfl | simp only [fl_row_ne e280]
theorem r_restNow_w {f : t2_F} {c : Int32} {C : Nat} {w : Nat} (e0 : w ≠ 444 + 61 * C + 4) (e1 : w ≠ 444 + 61 * C + 12) (e2 : w ≠ 444 + 61 * C + 16) (e3 : w ≠ 444 + 61 * C + 13) : r_restNow_m f c C 280 w = f 280 w := by
  unfold r_restNow_m
  repeat' split
  all_goals first | rfl | simp only [fl_row_self, upd_ne e0, upd_ne e1, upd_ne e2, upd_ne e3]
theorem r_restNow_q {L : Nat} {xs : Nat → Int32} {f : t2_F} {l : t2_L} {Q : Option fl_V → fl_M → Prop} {c : Int32} {C : Nat} (hc : c.toInt = (C : Int)) (hC : C < 16) (hr : t2_RS f) (hk : t2_ck f C) (hw : -1 ≤ (f 280 (444 + 61 * C + 16)).toInt ∧ (f 280 (444 + 61 * C + 16)).toInt ≤ 1000) (k : Q none (r_restNow_m f c C, l)) : fl_Tq (pw_P L xs) 224 0 (fl_args (am_mxl (pw_P L xs) 224) [.inr (.inr (.inl (76, 277))), .inl c]) [] (f, l) Q := by
  refine fl_Tq.stp (pc' := 1) (lv' := [some (.inr (.inr (.inl (76, 277)))), some (.inl c), none, none]) (st' := [.inr (.inr (.inl (76, 277)))]) (m' := (f, l)) rfl rfl (fl_bo rfl) rfl ?_
  refine fl_Tq.stp (pc' := 2) (lv' := [some (.inr (.inr (.inl (76, 277)))), some (.inl c), none, none]) (st' := [.inr (.inr (.inl (76, 277))), .inr (.inr (.inl (76, 277)))]) (m' := (f, l)) rfl rfl (fl_bo rfl) rfl ?_
  refine fl_Tq.stp (pc' := 3) (lv' := [some (.inr (.inr (.inl (76, 277)))), some (.inl c), none, none]) (st' := [.inl c, .inr (.inr (.inl (76, 277))), .inr (.inr (.inl (76, 277)))]) (m' := (f, l)) rfl rfl (fl_bo rfl) rfl ?_
  refine fl_Tq.cal rfl rfl (fl_bo rfl) rfl ?_
  refine r_voltsOf_q hc hC hr hk ?_
  show fl_Tq _ 224 6 [some (.inr (.inr (.inl (76, 277)))), some (.inl c), none, none] [.inl (r_voltsOf_v f c C), .inr (.inr (.inl (76, 277)))] (f, l) _
  refine fl_Tq.cal rfl rfl (fl_bo rfl) rfl ?_
  refine r_leastBy_q hr ?_
  show fl_Tq _ 224 9 [some (.inr (.inr (.inl (76, 277)))), some (.inl c), none, none] [.inl (t2_pb (r_voltsOf_v f c C))] (f, l) _
  refine fl_Tq.stp (pc' := 10) (lv' := [some (.inr (.inr (.inl (76, 277)))), some (.inl c), some (.inl (t2_pb (r_voltsOf_v f c C))), none]) (st' := []) (m' := (f, l)) rfl rfl (fl_bo rfl) rfl ?_
  refine fl_Tq.stp (pc' := 11) (lv' := [some (.inr (.inr (.inl (76, 277)))), some (.inl c), some (.inl (t2_pb (r_voltsOf_v f c C))), none]) (st' := [.inr (.inr (.inl (76, 277)))]) (m' := (f, l)) rfl rfl (fl_bo rfl) rfl ?_
  refine fl_Tq.stp (pc' := 12) (lv' := [some (.inr (.inr (.inl (76, 277)))), some (.inl c), some (.inl (t2_pb (r_voltsOf_v f c C))), none]) (st' := [.inl c, .inr (.inr (.inl (76, 277)))]) (m' := (f, l)) rfl rfl (fl_bo rfl) rfl ?_
  refine fl_Tq.cB (c := (16 : Int32)) rfl (by decide +kernel) (fl_bo rfl) ?_
  refine fl_Tq.cal rfl rfl (fl_bo rfl) rfl ?_
  refine t2_get (C := C) (W := 16) (v := f 280 (444 + 61 * C + 16)) hc (by decide +kernel) hC (by decide) rfl ?_
  show fl_Tq _ 224 17 [some (.inr (.inr (.inl (76, 277)))), some (.inl c), some (.inl (t2_pb (r_voltsOf_v f c C))), none] [.inl (f 280 (444 + 61 * C + 16))] (f, l) _
  refine fl_Tq.stp (pc' := 18) (lv' := [some (.inr (.inr (.inl (76, 277)))), some (.inl c), some (.inl (t2_pb (r_voltsOf_v f c C))), some (.inl (f 280 (444 + 61 * C + 16)))]) (st' := []) (m' := (f, l)) rfl rfl (fl_bo rfl) rfl ?_
  refine fl_Tq.stp (pc' := 19) (lv' := [some (.inr (.inr (.inl (76, 277)))), some (.inl c), some (.inl (t2_pb (r_voltsOf_v f c C))), some (.inl (f 280 (444 + 61 * C + 16)))]) (st' := [.inr (.inr (.inl (76, 277)))]) (m' := (f, l)) rfl rfl (fl_bo rfl) rfl ?_
  refine fl_Tq.stp (pc' := 20) (lv' := [some (.inr (.inr (.inl (76, 277)))), some (.inl c), some (.inl (t2_pb (r_voltsOf_v f c C))), some (.inl (f 280 (444 + 61 * C + 16)))]) (st' := [.inl c, .inr (.inr (.inl (76, 277)))]) (m' := (f, l)) rfl rfl (fl_bo rfl) rfl ?_
  refine fl_Tq.cI (c := (4 : Int32)) rfl (by decide +kernel) (fl_bo rfl) ?_
  refine fl_Tq.stp (pc' := 22) (lv' := [some (.inr (.inr (.inl (76, 277)))), some (.inl c), some (.inl (t2_pb (r_voltsOf_v f c C))), some (.inl (f 280 (444 + 61 * C + 16)))]) (st' := [.inr (.inr (.inl (76, 277))), .inl (4 : Int32), .inl c, .inr (.inr (.inl (76, 277)))]) (m' := (f, l)) rfl rfl (fl_bo rfl) rfl ?_
  refine fl_Tq.stp (pc' := 23) (lv' := [some (.inr (.inr (.inl (76, 277)))), some (.inl c), some (.inl (t2_pb (r_voltsOf_v f c C))), some (.inl (f 280 (444 + 61 * C + 16)))]) (st' := [.inl c, .inr (.inr (.inl (76, 277))), .inl (4 : Int32), .inl c, .inr (.inr (.inl (76, 277)))]) (m' := (f, l)) rfl rfl (fl_bo rfl) rfl ?_
  refine fl_Tq.stp (pc' := 24) (lv' := [some (.inr (.inr (.inl (76, 277)))), some (.inl c), some (.inl (t2_pb (r_voltsOf_v f c C))), some (.inl (f 280 (444 + 61 * C + 16)))]) (st' := [.inl (t2_pb (r_voltsOf_v f c C)), .inl c, .inr (.inr (.inl (76, 277))), .inl (4 : Int32), .inl c, .inr (.inr (.inl (76, 277)))]) (m' := (f, l)) rfl rfl (fl_bo rfl) rfl ?_
  refine fl_Tq.cal rfl rfl (fl_bo rfl) rfl ?_
  refine r_chargeAt_q hc hC ?_
  show fl_Tq _ 224 27 [some (.inr (.inr (.inl (76, 277)))), some (.inl c), some (.inl (t2_pb (r_voltsOf_v f c C))), some (.inl (f 280 (444 + 61 * C + 16)))] [.inl (r_chargeAt_v f c C (t2_pb (r_voltsOf_v f c C))), .inl (4 : Int32), .inl c, .inr (.inr (.inl (76, 277)))] (f, l) _
  refine fl_Tq.cal rfl rfl (fl_bo rfl) rfl ?_
  refine t2_let (C := C) (W := 4) (m' := (fl_row f 280 (upd (f 280) (444 + 61 * C + 4) (r_chargeAt_v f c C (t2_pb (r_voltsOf_v f c C)))), l)) hc (by decide +kernel) hC (by decide) (t2_upn rfl) ?_
  show fl_Tq _ 224 30 [some (.inr (.inr (.inl (76, 277)))), some (.inl c), some (.inl (t2_pb (r_voltsOf_v f c C))), some (.inl (f 280 (444 + 61 * C + 16)))] [] (fl_row f 280 (upd (f 280) (444 + 61 * C + 4) (r_chargeAt_v f c C (t2_pb (r_voltsOf_v f c C)))), l) _
  refine fl_Tq.stp (pc' := 31) (lv' := [some (.inr (.inr (.inl (76, 277)))), some (.inl c), some (.inl (t2_pb (r_voltsOf_v f c C))), some (.inl (f 280 (444 + 61 * C + 16)))]) (st' := [.inl (f 280 (444 + 61 * C + 16))]) (m' := (fl_row f 280 (upd (f 280) (444 + 61 * C + 4) (r_chargeAt_v f c C (t2_pb (r_voltsOf_v f c C)))), l)) rfl rfl (fl_bo rfl) rfl ?_
  refine fl_Tq.cI (c := (-1 : Int32)) rfl (by decide +kernel) (fl_bo rfl) ?_
  have hj76 : fl_Tq (pw_P L xs) 224 81 [some (.inr (.inr (.inl (76, 277)))), some (.inl c), some (.inl (t2_pb (r_voltsOf_v f c C))), some (.inl (f 280 (444 + 61 * C + 16)))] [] (fl_row f 280 (upd (upd (f 280) (444 + 61 * C + 4) (r_chargeAt_v f c C (t2_pb (r_voltsOf_v f c C)))) (444 + 61 * C + 12) (r_restNow_j32_0 f c C)), l) Q → fl_Tq (pw_P L xs) 224 32 [some (.inr (.inr (.inl (76, 277)))), some (.inl c), some (.inl (t2_pb (r_voltsOf_v f c C))), some (.inl (f 280 (444 + 61 * C + 16)))] [.inl (-1 : Int32), .inl (f 280 (444 + 61 * C + 16))] (fl_row f 280 (upd (f 280) (444 + 61 * C + 4) (r_chargeAt_v f c C (t2_pb (r_voltsOf_v f c C)))), l) Q := by
    intro hJ
    by_cases h1 : (f 280 (444 + 61 * C + 16)).toInt = (-1 : Int32).toInt
    · refine fl_Tq.jt rfl (fl_bo rfl) (c2_eq_t h1) rfl ?_
      have e0 : (fl_row f 280 (upd (upd (f 280) (444 + 61 * C + 4) (r_chargeAt_v f c C (t2_pb (r_voltsOf_v f c C)))) (444 + 61 * C + 12) (r_restNow_j32_0 f c C))) = fl_row f 280 (upd (f 280) (444 + 61 * C + 4) (r_chargeAt_v f c C (t2_pb (r_voltsOf_v f c C)))) := by
        simp only [r_restNow_j32_0, if_pos h1]
        funext q j
        simp only [fl_row, upd]
        repeat' split
        all_goals first | rfl | simp_all
      rw [e0] at hJ
      exact hJ
    · refine fl_Tq.jf rfl (fl_bo rfl) (c2_eq_f h1) rfl ?_
      refine fl_Tq.stp (pc' := 36) (lv' := [some (.inr (.inr (.inl (76, 277)))), some (.inl c), some (.inl (t2_pb (r_voltsOf_v f c C))), some (.inl (f 280 (444 + 61 * C + 16)))]) (st' := [.inl (t2_pb (r_voltsOf_v f c C))]) (m' := (fl_row f 280 (upd (f 280) (444 + 61 * C + 4) (r_chargeAt_v f c C (t2_pb (r_voltsOf_v f c C)))), l)) rfl rfl (fl_bo rfl) rfl ?_
      refine fl_Tq.stp (pc' := 37) (lv' := [some (.inr (.inr (.inl (76, 277)))), some (.inl c), some (.inl (t2_pb (r_voltsOf_v f c C))), some (.inl (f 280 (444 + 61 * C + 16)))]) (st' := [.inl (f 280 (444 + 61 * C + 16)), .inl (t2_pb (r_voltsOf_v f c C))]) (m' := (fl_row f 280 (upd (f 280) (444 + 61 * C + 4) (r_chargeAt_v f c C (t2_pb (r_voltsOf_v f c C)))), l)) rfl rfl (fl_bo rfl) rfl ?_
      refine fl_Tq.stp (pc' := 38) (lv' := [some (.inr (.inr (.inl (76, 277)))), some (.inl c), some (.inl (t2_pb (r_voltsOf_v f c C))), some (.inl (f 280 (444 + 61 * C + 16)))]) (st' := [.inl ((t2_pb (r_voltsOf_v f c C)) - (f 280 (444 + 61 * C + 16)))]) (m' := (fl_row f 280 (upd (f 280) (444 + 61 * C + 4) (r_chargeAt_v f c C (t2_pb (r_voltsOf_v f c C)))), l)) rfl rfl (fl_bo rfl) rfl ?_
      refine fl_Tq.cal rfl rfl (fl_bo rfl) rfl ?_
      refine r_size_q  ?_
      show fl_Tq _ 224 41 [some (.inr (.inr (.inl (76, 277)))), some (.inl c), some (.inl (t2_pb (r_voltsOf_v f c C))), some (.inl (f 280 (444 + 61 * C + 16)))] [.inl (r_size_v ((t2_pb (r_voltsOf_v f c C)) - (f 280 (444 + 61 * C + 16))))] (fl_row f 280 (upd (f 280) (444 + 61 * C + 4) (r_chargeAt_v f c C (t2_pb (r_voltsOf_v f c C)))), l) _
      refine fl_Tq.cB (c := (100 : Int32)) rfl (by decide +kernel) (fl_bo rfl) ?_
      by_cases h2 : (r_size_v ((t2_pb (r_voltsOf_v f c C)) - (f 280 (444 + 61 * C + 16)))).toInt < (100 : Int32).toInt
      · refine fl_Tq.jt rfl (fl_bo rfl) (c2_lt_t h2) rfl ?_
        have e0 : (fl_row f 280 (upd (upd (f 280) (444 + 61 * C + 4) (r_chargeAt_v f c C (t2_pb (r_voltsOf_v f c C)))) (444 + 61 * C + 12) (r_restNow_j32_0 f c C))) = fl_row f 280 (upd (f 280) (444 + 61 * C + 4) (r_chargeAt_v f c C (t2_pb (r_voltsOf_v f c C)))) := by
          simp only [r_restNow_j32_0, if_neg h1, if_pos h2]
          funext q j
          simp only [fl_row, upd]
          repeat' split
          all_goals first | rfl | simp_all
        rw [e0] at hJ
        exact hJ
      · refine fl_Tq.jf rfl (fl_bo rfl) (c2_lt_f h2) rfl ?_
        refine fl_Tq.stp (pc' := 47) (lv' := [some (.inr (.inr (.inl (76, 277)))), some (.inl c), some (.inl (t2_pb (r_voltsOf_v f c C))), some (.inl (f 280 (444 + 61 * C + 16)))]) (st' := [.inr (.inr (.inl (76, 277)))]) (m' := (fl_row f 280 (upd (f 280) (444 + 61 * C + 4) (r_chargeAt_v f c C (t2_pb (r_voltsOf_v f c C)))), l)) rfl rfl (fl_bo rfl) rfl ?_
        refine fl_Tq.stp (pc' := 48) (lv' := [some (.inr (.inr (.inl (76, 277)))), some (.inl c), some (.inl (t2_pb (r_voltsOf_v f c C))), some (.inl (f 280 (444 + 61 * C + 16)))]) (st' := [.inl c, .inr (.inr (.inl (76, 277)))]) (m' := (fl_row f 280 (upd (f 280) (444 + 61 * C + 4) (r_chargeAt_v f c C (t2_pb (r_voltsOf_v f c C)))), l)) rfl rfl (fl_bo rfl) rfl ?_
        refine fl_Tq.cB (c := (12 : Int32)) rfl (by decide +kernel) (fl_bo rfl) ?_
        refine fl_Tq.stp (pc' := 53) (lv' := [some (.inr (.inr (.inl (76, 277)))), some (.inl c), some (.inl (t2_pb (r_voltsOf_v f c C))), some (.inl (f 280 (444 + 61 * C + 16)))]) (st' := [.inr (.inl (1000 : Int64)), .inl (12 : Int32), .inl c, .inr (.inr (.inl (76, 277)))]) (m' := (fl_row f 280 (upd (f 280) (444 + 61 * C + 4) (r_chargeAt_v f c C (t2_pb (r_voltsOf_v f c C)))), l)) rfl rfl (fl_bo rfl) rfl ?_
        refine fl_Tq.stp (pc' := 54) (lv' := [some (.inr (.inr (.inl (76, 277)))), some (.inl c), some (.inl (t2_pb (r_voltsOf_v f c C))), some (.inl (f 280 (444 + 61 * C + 16)))]) (st' := [.inr (.inr (.inl (76, 277))), .inr (.inl (1000 : Int64)), .inl (12 : Int32), .inl c, .inr (.inr (.inl (76, 277)))]) (m' := (fl_row f 280 (upd (f 280) (444 + 61 * C + 4) (r_chargeAt_v f c C (t2_pb (r_voltsOf_v f c C)))), l)) rfl rfl (fl_bo rfl) rfl ?_
        refine fl_Tq.stp (pc' := 55) (lv' := [some (.inr (.inr (.inl (76, 277)))), some (.inl c), some (.inl (t2_pb (r_voltsOf_v f c C))), some (.inl (f 280 (444 + 61 * C + 16)))]) (st' := [.inl c, .inr (.inr (.inl (76, 277))), .inr (.inl (1000 : Int64)), .inl (12 : Int32), .inl c, .inr (.inr (.inl (76, 277)))]) (m' := (fl_row f 280 (upd (f 280) (444 + 61 * C + 4) (r_chargeAt_v f c C (t2_pb (r_voltsOf_v f c C)))), l)) rfl rfl (fl_bo rfl) rfl ?_
        refine fl_Tq.cB (c := (13 : Int32)) rfl (by decide +kernel) (fl_bo rfl) ?_
        refine fl_Tq.cal rfl rfl (fl_bo rfl) rfl ?_
        refine t2_get (C := C) (W := 13) (v := f 280 (444 + 61 * C + 13)) hc (by decide +kernel) hC (by decide) (by simp only [fl_row_self, upd_ne (by omega : 444 + 61 * C + 13 ≠ 444 + 61 * C + 4)]) ?_
        show fl_Tq _ 224 60 [some (.inr (.inr (.inl (76, 277)))), some (.inl c), some (.inl (t2_pb (r_voltsOf_v f c C))), some (.inl (f 280 (444 + 61 * C + 16)))] [.inl (f 280 (444 + 61 * C + 13)), .inr (.inl (1000 : Int64)), .inl (12 : Int32), .inl c, .inr (.inr (.inl (76, 277)))] (fl_row f 280 (upd (f 280) (444 + 61 * C + 4) (r_chargeAt_v f c C (t2_pb (r_voltsOf_v f c C)))), l) _
        refine fl_Tq.cal rfl rfl (fl_bo rfl) rfl ?_
        refine r_size_q  ?_
        show fl_Tq _ 224 63 [some (.inr (.inr (.inl (76, 277)))), some (.inl c), some (.inl (t2_pb (r_voltsOf_v f c C))), some (.inl (f 280 (444 + 61 * C + 16)))] [.inl (r_size_v (f 280 (444 + 61 * C + 13))), .inr (.inl (1000 : Int64)), .inl (12 : Int32), .inl c, .inr (.inr (.inl (76, 277)))] (fl_row f 280 (upd (f 280) (444 + 61 * C + 4) (r_chargeAt_v f c C (t2_pb (r_voltsOf_v f c C)))), l) _
        refine fl_Tq.stp (pc' := 64) (lv' := [some (.inr (.inr (.inl (76, 277)))), some (.inl c), some (.inl (t2_pb (r_voltsOf_v f c C))), some (.inl (f 280 (444 + 61 * C + 16)))]) (st' := [.inr (.inl ((r_size_v (f 280 (444 + 61 * C + 13))).toInt64)), .inr (.inl (1000 : Int64)), .inl (12 : Int32), .inl c, .inr (.inr (.inl (76, 277)))]) (m' := (fl_row f 280 (upd (f 280) (444 + 61 * C + 4) (r_chargeAt_v f c C (t2_pb (r_voltsOf_v f c C)))), l)) rfl rfl (fl_bo rfl) rfl ?_
        refine fl_Tq.stp (pc' := 65) (lv' := [some (.inr (.inr (.inl (76, 277)))), some (.inl c), some (.inl (t2_pb (r_voltsOf_v f c C))), some (.inl (f 280 (444 + 61 * C + 16)))]) (st' := [.inr (.inl ((1000 : Int64) * ((r_size_v (f 280 (444 + 61 * C + 13))).toInt64))), .inl (12 : Int32), .inl c, .inr (.inr (.inl (76, 277)))]) (m' := (fl_row f 280 (upd (f 280) (444 + 61 * C + 4) (r_chargeAt_v f c C (t2_pb (r_voltsOf_v f c C)))), l)) rfl rfl (fl_bo rfl) rfl ?_
        refine fl_Tq.cS (c := (3600 : Int32)) rfl (by decide +kernel) (fl_bo rfl) ?_
        refine fl_Tq.stp (pc' := 69) (lv' := [some (.inr (.inr (.inl (76, 277)))), some (.inl c), some (.inl (t2_pb (r_voltsOf_v f c C))), some (.inl (f 280 (444 + 61 * C + 16)))]) (st' := [.inl (t2_pb (r_voltsOf_v f c C)), .inl (3600 : Int32), .inr (.inl ((1000 : Int64) * ((r_size_v (f 280 (444 + 61 * C + 13))).toInt64))), .inl (12 : Int32), .inl c, .inr (.inr (.inl (76, 277)))]) (m' := (fl_row f 280 (upd (f 280) (444 + 61 * C + 4) (r_chargeAt_v f c C (t2_pb (r_voltsOf_v f c C)))), l)) rfl rfl (fl_bo rfl) rfl ?_
        refine fl_Tq.stp (pc' := 70) (lv' := [some (.inr (.inr (.inl (76, 277)))), some (.inl c), some (.inl (t2_pb (r_voltsOf_v f c C))), some (.inl (f 280 (444 + 61 * C + 16)))]) (st' := [.inl (f 280 (444 + 61 * C + 16)), .inl (t2_pb (r_voltsOf_v f c C)), .inl (3600 : Int32), .inr (.inl ((1000 : Int64) * ((r_size_v (f 280 (444 + 61 * C + 13))).toInt64))), .inl (12 : Int32), .inl c, .inr (.inr (.inl (76, 277)))]) (m' := (fl_row f 280 (upd (f 280) (444 + 61 * C + 4) (r_chargeAt_v f c C (t2_pb (r_voltsOf_v f c C)))), l)) rfl rfl (fl_bo rfl) rfl ?_
        refine fl_Tq.stp (pc' := 71) (lv' := [some (.inr (.inr (.inl (76, 277)))), some (.inl c), some (.inl (t2_pb (r_voltsOf_v f c C))), some (.inl (f 280 (444 + 61 * C + 16)))]) (st' := [.inl ((t2_pb (r_voltsOf_v f c C)) - (f 280 (444 + 61 * C + 16))), .inl (3600 : Int32), .inr (.inl ((1000 : Int64) * ((r_size_v (f 280 (444 + 61 * C + 13))).toInt64))), .inl (12 : Int32), .inl c, .inr (.inr (.inl (76, 277)))]) (m' := (fl_row f 280 (upd (f 280) (444 + 61 * C + 4) (r_chargeAt_v f c C (t2_pb (r_voltsOf_v f c C)))), l)) rfl rfl (fl_bo rfl) rfl ?_
        refine fl_Tq.cal rfl rfl (fl_bo rfl) rfl ?_
        refine r_size_q  ?_
        show fl_Tq _ 224 74 [some (.inr (.inr (.inl (76, 277)))), some (.inl c), some (.inl (t2_pb (r_voltsOf_v f c C))), some (.inl (f 280 (444 + 61 * C + 16)))] [.inl (r_size_v ((t2_pb (r_voltsOf_v f c C)) - (f 280 (444 + 61 * C + 16)))), .inl (3600 : Int32), .inr (.inl ((1000 : Int64) * ((r_size_v (f 280 (444 + 61 * C + 13))).toInt64))), .inl (12 : Int32), .inl c, .inr (.inr (.inl (76, 277)))] (fl_row f 280 (upd (f 280) (444 + 61 * C + 4) (r_chargeAt_v f c C (t2_pb (r_voltsOf_v f c C)))), l) _
        refine fl_Tq.stp (pc' := 75) (lv' := [some (.inr (.inr (.inl (76, 277)))), some (.inl c), some (.inl (t2_pb (r_voltsOf_v f c C))), some (.inl (f 280 (444 + 61 * C + 16)))]) (st' := [.inl ((3600 : Int32) * (r_size_v ((t2_pb (r_voltsOf_v f c C)) - (f 280 (444 + 61 * C + 16))))), .inr (.inl ((1000 : Int64) * ((r_size_v (f 280 (444 + 61 * C + 13))).toInt64))), .inl (12 : Int32), .inl c, .inr (.inr (.inl (76, 277)))]) (m' := (fl_row f 280 (upd (f 280) (444 + 61 * C + 4) (r_chargeAt_v f c C (t2_pb (r_voltsOf_v f c C)))), l)) rfl rfl (fl_bo rfl) rfl ?_
        refine fl_Tq.stp (pc' := 76) (lv' := [some (.inr (.inr (.inl (76, 277)))), some (.inl c), some (.inl (t2_pb (r_voltsOf_v f c C))), some (.inl (f 280 (444 + 61 * C + 16)))]) (st' := [.inr (.inl (((3600 : Int32) * (r_size_v ((t2_pb (r_voltsOf_v f c C)) - (f 280 (444 + 61 * C + 16))))).toInt64)), .inr (.inl ((1000 : Int64) * ((r_size_v (f 280 (444 + 61 * C + 13))).toInt64))), .inl (12 : Int32), .inl c, .inr (.inr (.inl (76, 277)))]) (m' := (fl_row f 280 (upd (f 280) (444 + 61 * C + 4) (r_chargeAt_v f c C (t2_pb (r_voltsOf_v f c C)))), l)) rfl rfl (fl_bo rfl) rfl ?_
        refine fl_Tq.dvJ rfl (fl_bo rfl) (t2_rest_nz (t2_pb_b _) hw h2) ?_
        refine fl_Tq.stp (pc' := 78) (lv' := [some (.inr (.inr (.inl (76, 277)))), some (.inl c), some (.inl (t2_pb (r_voltsOf_v f c C))), some (.inl (f 280 (444 + 61 * C + 16)))]) (st' := [.inl ((((1000 : Int64) * ((r_size_v (f 280 (444 + 61 * C + 13))).toInt64)) / (((3600 : Int32) * (r_size_v ((t2_pb (r_voltsOf_v f c C)) - (f 280 (444 + 61 * C + 16))))).toInt64)).toInt32), .inl (12 : Int32), .inl c, .inr (.inr (.inl (76, 277)))]) (m' := (fl_row f 280 (upd (f 280) (444 + 61 * C + 4) (r_chargeAt_v f c C (t2_pb (r_voltsOf_v f c C)))), l)) rfl rfl (fl_bo rfl) rfl ?_
        refine fl_Tq.cal rfl rfl (fl_bo rfl) rfl ?_
        refine t2_let (C := C) (W := 12) (m' := (fl_row f 280 (upd (upd (f 280) (444 + 61 * C + 4) (r_chargeAt_v f c C (t2_pb (r_voltsOf_v f c C)))) (444 + 61 * C + 12) ((((1000 : Int64) * ((r_size_v (f 280 (444 + 61 * C + 13))).toInt64)) / (((3600 : Int32) * (r_size_v ((t2_pb (r_voltsOf_v f c C)) - (f 280 (444 + 61 * C + 16))))).toInt64)).toInt32)), l)) hc (by decide +kernel) hC (by decide) (t2_upr) ?_
        show fl_Tq _ 224 81 [some (.inr (.inr (.inl (76, 277)))), some (.inl c), some (.inl (t2_pb (r_voltsOf_v f c C))), some (.inl (f 280 (444 + 61 * C + 16)))] [] (fl_row f 280 (upd (upd (f 280) (444 + 61 * C + 4) (r_chargeAt_v f c C (t2_pb (r_voltsOf_v f c C)))) (444 + 61 * C + 12) ((((1000 : Int64) * ((r_size_v (f 280 (444 + 61 * C + 13))).toInt64)) / (((3600 : Int32) * (r_size_v ((t2_pb (r_voltsOf_v f c C)) - (f 280 (444 + 61 * C + 16))))).toInt64)).toInt32)), l) _
        have e0 : (fl_row f 280 (upd (upd (f 280) (444 + 61 * C + 4) (r_chargeAt_v f c C (t2_pb (r_voltsOf_v f c C)))) (444 + 61 * C + 12) (r_restNow_j32_0 f c C))) = fl_row f 280 (upd (upd (f 280) (444 + 61 * C + 4) (r_chargeAt_v f c C (t2_pb (r_voltsOf_v f c C)))) (444 + 61 * C + 12) ((((1000 : Int64) * ((r_size_v (f 280 (444 + 61 * C + 13))).toInt64)) / (((3600 : Int32) * (r_size_v ((t2_pb (r_voltsOf_v f c C)) - (f 280 (444 + 61 * C + 16))))).toInt64)).toInt32)) := by
          simp only [r_restNow_j32_0, if_neg h1, if_neg h2]
        rw [e0] at hJ
        exact hJ
  refine hj76 ?_
  show fl_Tq _ 224 81 [some (.inr (.inr (.inl (76, 277)))), some (.inl c), some (.inl (t2_pb (r_voltsOf_v f c C))), some (.inl (f 280 (444 + 61 * C + 16)))] [] (fl_row f 280 (upd (upd (f 280) (444 + 61 * C + 4) (r_chargeAt_v f c C (t2_pb (r_voltsOf_v f c C)))) (444 + 61 * C + 12) (r_restNow_j32_0 f c C)), l) _
  refine fl_Tq.stp (pc' := 82) (lv' := [some (.inr (.inr (.inl (76, 277)))), some (.inl c), some (.inl (t2_pb (r_voltsOf_v f c C))), some (.inl (f 280 (444 + 61 * C + 16)))]) (st' := [.inr (.inr (.inl (76, 277)))]) (m' := (fl_row f 280 (upd (upd (f 280) (444 + 61 * C + 4) (r_chargeAt_v f c C (t2_pb (r_voltsOf_v f c C)))) (444 + 61 * C + 12) (r_restNow_j32_0 f c C)), l)) rfl rfl (fl_bo rfl) rfl ?_
  refine fl_Tq.stp (pc' := 83) (lv' := [some (.inr (.inr (.inl (76, 277)))), some (.inl c), some (.inl (t2_pb (r_voltsOf_v f c C))), some (.inl (f 280 (444 + 61 * C + 16)))]) (st' := [.inl c, .inr (.inr (.inl (76, 277)))]) (m' := (fl_row f 280 (upd (upd (f 280) (444 + 61 * C + 4) (r_chargeAt_v f c C (t2_pb (r_voltsOf_v f c C)))) (444 + 61 * C + 12) (r_restNow_j32_0 f c C)), l)) rfl rfl (fl_bo rfl) rfl ?_
  refine fl_Tq.cB (c := (16 : Int32)) rfl (by decide +kernel) (fl_bo rfl) ?_
  refine fl_Tq.stp (pc' := 86) (lv' := [some (.inr (.inr (.inl (76, 277)))), some (.inl c), some (.inl (t2_pb (r_voltsOf_v f c C))), some (.inl (f 280 (444 + 61 * C + 16)))]) (st' := [.inl (t2_pb (r_voltsOf_v f c C)), .inl (16 : Int32), .inl c, .inr (.inr (.inl (76, 277)))]) (m' := (fl_row f 280 (upd (upd (f 280) (444 + 61 * C + 4) (r_chargeAt_v f c C (t2_pb (r_voltsOf_v f c C)))) (444 + 61 * C + 12) (r_restNow_j32_0 f c C)), l)) rfl rfl (fl_bo rfl) rfl ?_
  refine fl_Tq.cal rfl rfl (fl_bo rfl) rfl ?_
  refine t2_let (C := C) (W := 16) (m' := (fl_row f 280 (upd (upd (upd (f 280) (444 + 61 * C + 4) (r_chargeAt_v f c C (t2_pb (r_voltsOf_v f c C)))) (444 + 61 * C + 12) (r_restNow_j32_0 f c C)) (444 + 61 * C + 16) (t2_pb (r_voltsOf_v f c C))), l)) hc (by decide +kernel) hC (by decide) (t2_upr) ?_
  show fl_Tq _ 224 89 [some (.inr (.inr (.inl (76, 277)))), some (.inl c), some (.inl (t2_pb (r_voltsOf_v f c C))), some (.inl (f 280 (444 + 61 * C + 16)))] [] (fl_row f 280 (upd (upd (upd (f 280) (444 + 61 * C + 4) (r_chargeAt_v f c C (t2_pb (r_voltsOf_v f c C)))) (444 + 61 * C + 12) (r_restNow_j32_0 f c C)) (444 + 61 * C + 16) (t2_pb (r_voltsOf_v f c C))), l) _
  refine fl_Tq.stp (pc' := 90) (lv' := [some (.inr (.inr (.inl (76, 277)))), some (.inl c), some (.inl (t2_pb (r_voltsOf_v f c C))), some (.inl (f 280 (444 + 61 * C + 16)))]) (st' := [.inr (.inr (.inl (76, 277)))]) (m' := (fl_row f 280 (upd (upd (upd (f 280) (444 + 61 * C + 4) (r_chargeAt_v f c C (t2_pb (r_voltsOf_v f c C)))) (444 + 61 * C + 12) (r_restNow_j32_0 f c C)) (444 + 61 * C + 16) (t2_pb (r_voltsOf_v f c C))), l)) rfl rfl (fl_bo rfl) rfl ?_
  refine fl_Tq.stp (pc' := 91) (lv' := [some (.inr (.inr (.inl (76, 277)))), some (.inl c), some (.inl (t2_pb (r_voltsOf_v f c C))), some (.inl (f 280 (444 + 61 * C + 16)))]) (st' := [.inl c, .inr (.inr (.inl (76, 277)))]) (m' := (fl_row f 280 (upd (upd (upd (f 280) (444 + 61 * C + 4) (r_chargeAt_v f c C (t2_pb (r_voltsOf_v f c C)))) (444 + 61 * C + 12) (r_restNow_j32_0 f c C)) (444 + 61 * C + 16) (t2_pb (r_voltsOf_v f c C))), l)) rfl rfl (fl_bo rfl) rfl ?_
  refine fl_Tq.cB (c := (13 : Int32)) rfl (by decide +kernel) (fl_bo rfl) ?_
  refine fl_Tq.cI (c := (0 : Int32)) rfl (by decide +kernel) (fl_bo rfl) ?_
  refine fl_Tq.cal rfl rfl (fl_bo rfl) rfl ?_
  refine t2_let (C := C) (W := 13) (m' := (fl_row f 280 (upd (upd (upd (upd (f 280) (444 + 61 * C + 4) (r_chargeAt_v f c C (t2_pb (r_voltsOf_v f c C)))) (444 + 61 * C + 12) (r_restNow_j32_0 f c C)) (444 + 61 * C + 16) (t2_pb (r_voltsOf_v f c C))) (444 + 61 * C + 13) (0 : Int32)), l)) hc (by decide +kernel) hC (by decide) (t2_upr) ?_
  show fl_Tq _ 224 97 [some (.inr (.inr (.inl (76, 277)))), some (.inl c), some (.inl (t2_pb (r_voltsOf_v f c C))), some (.inl (f 280 (444 + 61 * C + 16)))] [] (fl_row f 280 (upd (upd (upd (upd (f 280) (444 + 61 * C + 4) (r_chargeAt_v f c C (t2_pb (r_voltsOf_v f c C)))) (444 + 61 * C + 12) (r_restNow_j32_0 f c C)) (444 + 61 * C + 16) (t2_pb (r_voltsOf_v f c C))) (444 + 61 * C + 13) (0 : Int32)), l) _
  exact fl_Tq.ret rfl rfl rfl k
noncomputable def r_goMeasure_b17_j41_0 (f : t2_F) (z : Int32) (k : Nat) : Int32 := if (f 280 (444 + 61 * k + 15)).toInt = (1 : Int32).toInt then (if (r_size_v z).toInt < (1000 : Int32).toInt then f 280 (444 + 61 * k + 11) else (((r_voltsOf_v f (Int32.ofNat k) k) - (f 280 (444 + 61 * k + 14))) * (1000 : Int32)) / z) else f 280 (444 + 61 * k + 11)
noncomputable def r_goMeasure_b17_m (f : t2_F) (z : Int32) (k : Nat) : t2_F := fl_row f 280 (upd (upd (upd (upd (f 280) (444 + 61 * k + 11) (r_goMeasure_b17_j41_0 f z k)) (444 + 61 * k + 14) (r_voltsOf_v f (Int32.ofNat k) k)) (444 + 61 * k + 15) (1 : Int32)) (444 + 61 * k + 13) ((f 280 (444 + 61 * k + 13)) + (f 280 5)))
theorem r_goMeasure_b17_fr {f : t2_F} {z : Int32} {k : Nat} {p : Nat}  (e280 : p ≠ 280) : r_goMeasure_b17_m f z k p = f p := by
  unfold r_goMeasure_b17_m
  repeat' split
  all_goals first | rfl | simp only [fl_row_ne e280]
theorem r_goMeasure_b17_w {f : t2_F} {z : Int32} {k : Nat} {w : Nat} (e0 : w ≠ 444 + 61 * k + 11) (e1 : w ≠ 444 + 61 * k + 14) (e2 : w ≠ 444 + 61 * k + 15) (e3 : w ≠ 444 + 61 * k + 13) : r_goMeasure_b17_m f z k 280 w = f 280 w := by
  unfold r_goMeasure_b17_m
  repeat' split
  all_goals first | rfl | simp only [fl_row_self, upd_ne e0, upd_ne e1, upd_ne e2, upd_ne e3]
theorem r_goMeasure_b17_q {L : Nat} {xs : Nat → Int32} {f : t2_F} {l : t2_L} {Q : Option fl_V → fl_M → Prop} {z : Int32} {k : Nat} {n : Nat} (hkn : k < n) (hb : (f 280 2).toInt = (n : Int)) (h16 : n ≤ 16) (hr : t2_RS f) (hkk : t2_ck f k) (hS : fl_Tq (pw_P L xs) 225 17 [some (.inr (.inr (.inl (76, 277)))), some (.inl z), some (.inl (Int32.ofNat (k + 1))), none] [] (r_goMeasure_b17_m f z k, l) Q) : fl_Tq (pw_P L xs) 225 17 [some (.inr (.inr (.inl (76, 277)))), some (.inl z), some (.inl (Int32.ofNat k)), none] [] (f, l) Q := by
  refine fl_Tq.stp (pc' := 18) (lv' := [some (.inr (.inr (.inl (76, 277)))), some (.inl z), some (.inl (Int32.ofNat k)), none]) (st' := [.inl (Int32.ofNat k)]) (m' := (f, l)) rfl rfl (fl_bo rfl) rfl ?_
  refine fl_Tq.stp (pc' := 19) (lv' := [some (.inr (.inr (.inl (76, 277)))), some (.inl z), some (.inl (Int32.ofNat k)), none]) (st' := [.inr (.inr (.inl (76, 277))), .inl (Int32.ofNat k)]) (m' := (f, l)) rfl rfl (fl_bo rfl) rfl ?_
  refine fl_Tq.stp (pc' := 22) (lv' := [some (.inr (.inr (.inl (76, 277)))), some (.inl z), some (.inl (Int32.ofNat k)), none]) (st' := [.inr (.inr (.inl (79, 280))), .inl (Int32.ofNat k)]) (m' := (f, l)) rfl rfl (fl_bo rfl) rfl ?_
  refine fl_Tq.cI (c := (2 : Int32)) rfl (by decide +kernel) (fl_bo rfl) ?_
  refine fl_Tq.ldV (p := 280) (τ := 79) (n := 29780) (z := (0, 0, 0)) (k := 2) (v := f 280 2) rfl (fl_bo rfl) rfl (by decide +kernel) (by decide) rfl ?_
  refine fl_Tq.jf rfl (fl_bo rfl) (c2_ge_f (t2_lk hkn hb)) rfl ?_
  refine fl_Tq.stp (pc' := 28) (lv' := [some (.inr (.inr (.inl (76, 277)))), some (.inl z), some (.inl (Int32.ofNat k)), none]) (st' := [.inr (.inr (.inl (76, 277)))]) (m' := (f, l)) rfl rfl (fl_bo rfl) rfl ?_
  refine fl_Tq.stp (pc' := 29) (lv' := [some (.inr (.inr (.inl (76, 277)))), some (.inl z), some (.inl (Int32.ofNat k)), none]) (st' := [.inl (Int32.ofNat k), .inr (.inr (.inl (76, 277)))]) (m' := (f, l)) rfl rfl (fl_bo rfl) rfl ?_
  refine fl_Tq.cal rfl rfl (fl_bo rfl) rfl ?_
  refine r_voltsOf_q (at_ofN (by omega)) (by omega) hr hkk ?_
  show fl_Tq _ 225 32 [some (.inr (.inr (.inl (76, 277)))), some (.inl z), some (.inl (Int32.ofNat k)), none] [.inl (r_voltsOf_v f (Int32.ofNat k) k)] (f, l) _
  refine fl_Tq.stp (pc' := 33) (lv' := [some (.inr (.inr (.inl (76, 277)))), some (.inl z), some (.inl (Int32.ofNat k)), some (.inl (r_voltsOf_v f (Int32.ofNat k) k))]) (st' := []) (m' := (f, l)) rfl rfl (fl_bo rfl) rfl ?_
  refine fl_Tq.stp (pc' := 34) (lv' := [some (.inr (.inr (.inl (76, 277)))), some (.inl z), some (.inl (Int32.ofNat k)), some (.inl (r_voltsOf_v f (Int32.ofNat k) k))]) (st' := [.inr (.inr (.inl (76, 277)))]) (m' := (f, l)) rfl rfl (fl_bo rfl) rfl ?_
  refine fl_Tq.stp (pc' := 35) (lv' := [some (.inr (.inr (.inl (76, 277)))), some (.inl z), some (.inl (Int32.ofNat k)), some (.inl (r_voltsOf_v f (Int32.ofNat k) k))]) (st' := [.inl (Int32.ofNat k), .inr (.inr (.inl (76, 277)))]) (m' := (f, l)) rfl rfl (fl_bo rfl) rfl ?_
  refine fl_Tq.cB (c := (15 : Int32)) rfl (by decide +kernel) (fl_bo rfl) ?_
  refine fl_Tq.cal rfl rfl (fl_bo rfl) rfl ?_
  refine t2_get (C := k) (W := 15) (v := f 280 (444 + 61 * k + 15)) (at_ofN (by omega)) (by decide +kernel) (by omega) (by decide) rfl ?_
  show fl_Tq _ 225 40 [some (.inr (.inr (.inl (76, 277)))), some (.inl z), some (.inl (Int32.ofNat k)), some (.inl (r_voltsOf_v f (Int32.ofNat k) k))] [.inl (f 280 (444 + 61 * k + 15))] (f, l) _
  refine fl_Tq.cI (c := (1 : Int32)) rfl (by decide +kernel) (fl_bo rfl) ?_
  have hj77 : fl_Tq (pw_P L xs) 225 76 [some (.inr (.inr (.inl (76, 277)))), some (.inl z), some (.inl (Int32.ofNat k)), some (.inl (r_voltsOf_v f (Int32.ofNat k) k))] [] (fl_row f 280 (upd (f 280) (444 + 61 * k + 11) (r_goMeasure_b17_j41_0 f z k)), l) Q → fl_Tq (pw_P L xs) 225 41 [some (.inr (.inr (.inl (76, 277)))), some (.inl z), some (.inl (Int32.ofNat k)), some (.inl (r_voltsOf_v f (Int32.ofNat k) k))] [.inl (1 : Int32), .inl (f 280 (444 + 61 * k + 15))] (f, l) Q := by
    intro hJ
    by_cases h1 : (f 280 (444 + 61 * k + 15)).toInt = (1 : Int32).toInt
    · refine fl_Tq.jf rfl (fl_bo rfl) (c2_ne_f h1) rfl ?_
      refine fl_Tq.stp (pc' := 45) (lv' := [some (.inr (.inr (.inl (76, 277)))), some (.inl z), some (.inl (Int32.ofNat k)), some (.inl (r_voltsOf_v f (Int32.ofNat k) k))]) (st' := [.inl z]) (m' := (f, l)) rfl rfl (fl_bo rfl) rfl ?_
      refine fl_Tq.cal rfl rfl (fl_bo rfl) rfl ?_
      refine r_size_q  ?_
      show fl_Tq _ 225 48 [some (.inr (.inr (.inl (76, 277)))), some (.inl z), some (.inl (Int32.ofNat k)), some (.inl (r_voltsOf_v f (Int32.ofNat k) k))] [.inl (r_size_v z)] (f, l) _
      refine fl_Tq.cS (c := (1000 : Int32)) rfl (by decide +kernel) (fl_bo rfl) ?_
      by_cases h2 : (r_size_v z).toInt < (1000 : Int32).toInt
      · refine fl_Tq.jt rfl (fl_bo rfl) (c2_lt_t h2) rfl ?_
        have e0 : (fl_row f 280 (upd (f 280) (444 + 61 * k + 11) (r_goMeasure_b17_j41_0 f z k))) = f := by
          simp only [r_goMeasure_b17_j41_0, if_pos h1, if_pos h2]
          funext q j
          simp only [fl_row, upd]
          repeat' split
          all_goals first | rfl | simp_all
        rw [e0] at hJ
        exact hJ
      · refine fl_Tq.jf rfl (fl_bo rfl) (c2_lt_f h2) rfl ?_
        refine fl_Tq.stp (pc' := 55) (lv' := [some (.inr (.inr (.inl (76, 277)))), some (.inl z), some (.inl (Int32.ofNat k)), some (.inl (r_voltsOf_v f (Int32.ofNat k) k))]) (st' := [.inr (.inr (.inl (76, 277)))]) (m' := (f, l)) rfl rfl (fl_bo rfl) rfl ?_
        refine fl_Tq.stp (pc' := 56) (lv' := [some (.inr (.inr (.inl (76, 277)))), some (.inl z), some (.inl (Int32.ofNat k)), some (.inl (r_voltsOf_v f (Int32.ofNat k) k))]) (st' := [.inl (Int32.ofNat k), .inr (.inr (.inl (76, 277)))]) (m' := (f, l)) rfl rfl (fl_bo rfl) rfl ?_
        refine fl_Tq.cB (c := (11 : Int32)) rfl (by decide +kernel) (fl_bo rfl) ?_
        refine fl_Tq.stp (pc' := 59) (lv' := [some (.inr (.inr (.inl (76, 277)))), some (.inl z), some (.inl (Int32.ofNat k)), some (.inl (r_voltsOf_v f (Int32.ofNat k) k))]) (st' := [.inl (r_voltsOf_v f (Int32.ofNat k) k), .inl (11 : Int32), .inl (Int32.ofNat k), .inr (.inr (.inl (76, 277)))]) (m' := (f, l)) rfl rfl (fl_bo rfl) rfl ?_
        refine fl_Tq.stp (pc' := 60) (lv' := [some (.inr (.inr (.inl (76, 277)))), some (.inl z), some (.inl (Int32.ofNat k)), some (.inl (r_voltsOf_v f (Int32.ofNat k) k))]) (st' := [.inr (.inr (.inl (76, 277))), .inl (r_voltsOf_v f (Int32.ofNat k) k), .inl (11 : Int32), .inl (Int32.ofNat k), .inr (.inr (.inl (76, 277)))]) (m' := (f, l)) rfl rfl (fl_bo rfl) rfl ?_
        refine fl_Tq.stp (pc' := 61) (lv' := [some (.inr (.inr (.inl (76, 277)))), some (.inl z), some (.inl (Int32.ofNat k)), some (.inl (r_voltsOf_v f (Int32.ofNat k) k))]) (st' := [.inl (Int32.ofNat k), .inr (.inr (.inl (76, 277))), .inl (r_voltsOf_v f (Int32.ofNat k) k), .inl (11 : Int32), .inl (Int32.ofNat k), .inr (.inr (.inl (76, 277)))]) (m' := (f, l)) rfl rfl (fl_bo rfl) rfl ?_
        refine fl_Tq.cB (c := (14 : Int32)) rfl (by decide +kernel) (fl_bo rfl) ?_
        refine fl_Tq.cal rfl rfl (fl_bo rfl) rfl ?_
        refine t2_get (C := k) (W := 14) (v := f 280 (444 + 61 * k + 14)) (at_ofN (by omega)) (by decide +kernel) (by omega) (by decide) rfl ?_
        show fl_Tq _ 225 66 [some (.inr (.inr (.inl (76, 277)))), some (.inl z), some (.inl (Int32.ofNat k)), some (.inl (r_voltsOf_v f (Int32.ofNat k) k))] [.inl (f 280 (444 + 61 * k + 14)), .inl (r_voltsOf_v f (Int32.ofNat k) k), .inl (11 : Int32), .inl (Int32.ofNat k), .inr (.inr (.inl (76, 277)))] (f, l) _
        refine fl_Tq.stp (pc' := 67) (lv' := [some (.inr (.inr (.inl (76, 277)))), some (.inl z), some (.inl (Int32.ofNat k)), some (.inl (r_voltsOf_v f (Int32.ofNat k) k))]) (st' := [.inl ((r_voltsOf_v f (Int32.ofNat k) k) - (f 280 (444 + 61 * k + 14))), .inl (11 : Int32), .inl (Int32.ofNat k), .inr (.inr (.inl (76, 277)))]) (m' := (f, l)) rfl rfl (fl_bo rfl) rfl ?_
        refine fl_Tq.cS (c := (1000 : Int32)) rfl (by decide +kernel) (fl_bo rfl) ?_
        refine fl_Tq.stp (pc' := 71) (lv' := [some (.inr (.inr (.inl (76, 277)))), some (.inl z), some (.inl (Int32.ofNat k)), some (.inl (r_voltsOf_v f (Int32.ofNat k) k))]) (st' := [.inl (((r_voltsOf_v f (Int32.ofNat k) k) - (f 280 (444 + 61 * k + 14))) * (1000 : Int32)), .inl (11 : Int32), .inl (Int32.ofNat k), .inr (.inr (.inl (76, 277)))]) (m' := (f, l)) rfl rfl (fl_bo rfl) rfl ?_
        refine fl_Tq.stp (pc' := 72) (lv' := [some (.inr (.inr (.inl (76, 277)))), some (.inl z), some (.inl (Int32.ofNat k)), some (.inl (r_voltsOf_v f (Int32.ofNat k) k))]) (st' := [.inl z, .inl (((r_voltsOf_v f (Int32.ofNat k) k) - (f 280 (444 + 61 * k + 14))) * (1000 : Int32)), .inl (11 : Int32), .inl (Int32.ofNat k), .inr (.inr (.inl (76, 277)))]) (m' := (f, l)) rfl rfl (fl_bo rfl) rfl ?_
        refine fl_Tq.dv rfl (fl_bo rfl) (r_size_nz h2) ?_
        refine fl_Tq.cal rfl rfl (fl_bo rfl) rfl ?_
        refine t2_let (C := k) (W := 11) (m' := (fl_row f 280 (upd (f 280) (444 + 61 * k + 11) ((((r_voltsOf_v f (Int32.ofNat k) k) - (f 280 (444 + 61 * k + 14))) * (1000 : Int32)) / z)), l)) (at_ofN (by omega)) (by decide +kernel) (by omega) (by decide) (t2_upn rfl) ?_
        show fl_Tq _ 225 76 [some (.inr (.inr (.inl (76, 277)))), some (.inl z), some (.inl (Int32.ofNat k)), some (.inl (r_voltsOf_v f (Int32.ofNat k) k))] [] (fl_row f 280 (upd (f 280) (444 + 61 * k + 11) ((((r_voltsOf_v f (Int32.ofNat k) k) - (f 280 (444 + 61 * k + 14))) * (1000 : Int32)) / z)), l) _
        have e0 : (fl_row f 280 (upd (f 280) (444 + 61 * k + 11) (r_goMeasure_b17_j41_0 f z k))) = fl_row f 280 (upd (f 280) (444 + 61 * k + 11) ((((r_voltsOf_v f (Int32.ofNat k) k) - (f 280 (444 + 61 * k + 14))) * (1000 : Int32)) / z)) := by
          simp only [r_goMeasure_b17_j41_0, if_pos h1, if_neg h2]
        rw [e0] at hJ
        exact hJ
    · refine fl_Tq.jt rfl (fl_bo rfl) (c2_ne_t h1) rfl ?_
      have e0 : (fl_row f 280 (upd (f 280) (444 + 61 * k + 11) (r_goMeasure_b17_j41_0 f z k))) = f := by
        simp only [r_goMeasure_b17_j41_0, if_neg h1]
        funext q j
        simp only [fl_row, upd]
        repeat' split
        all_goals first | rfl | simp_all
      rw [e0] at hJ
      exact hJ
  refine hj77 ?_
  show fl_Tq _ 225 76 [some (.inr (.inr (.inl (76, 277)))), some (.inl z), some (.inl (Int32.ofNat k)), some (.inl (r_voltsOf_v f (Int32.ofNat k) k))] [] (fl_row f 280 (upd (f 280) (444 + 61 * k + 11) (r_goMeasure_b17_j41_0 f z k)), l) _
  refine fl_Tq.stp (pc' := 77) (lv' := [some (.inr (.inr (.inl (76, 277)))), some (.inl z), some (.inl (Int32.ofNat k)), some (.inl (r_voltsOf_v f (Int32.ofNat k) k))]) (st' := [.inr (.inr (.inl (76, 277)))]) (m' := (fl_row f 280 (upd (f 280) (444 + 61 * k + 11) (r_goMeasure_b17_j41_0 f z k)), l)) rfl rfl (fl_bo rfl) rfl ?_
  refine fl_Tq.stp (pc' := 78) (lv' := [some (.inr (.inr (.inl (76, 277)))), some (.inl z), some (.inl (Int32.ofNat k)), some (.inl (r_voltsOf_v f (Int32.ofNat k) k))]) (st' := [.inl (Int32.ofNat k), .inr (.inr (.inl (76, 277)))]) (m' := (fl_row f 280 (upd (f 280) (444 + 61 * k + 11) (r_goMeasure_b17_j41_0 f z k)), l)) rfl rfl (fl_bo rfl) rfl ?_
  refine fl_Tq.cB (c := (14 : Int32)) rfl (by decide +kernel) (fl_bo rfl) ?_
  refine fl_Tq.stp (pc' := 81) (lv' := [some (.inr (.inr (.inl (76, 277)))), some (.inl z), some (.inl (Int32.ofNat k)), some (.inl (r_voltsOf_v f (Int32.ofNat k) k))]) (st' := [.inl (r_voltsOf_v f (Int32.ofNat k) k), .inl (14 : Int32), .inl (Int32.ofNat k), .inr (.inr (.inl (76, 277)))]) (m' := (fl_row f 280 (upd (f 280) (444 + 61 * k + 11) (r_goMeasure_b17_j41_0 f z k)), l)) rfl rfl (fl_bo rfl) rfl ?_
  refine fl_Tq.cal rfl rfl (fl_bo rfl) rfl ?_
  refine t2_let (C := k) (W := 14) (m' := (fl_row f 280 (upd (upd (f 280) (444 + 61 * k + 11) (r_goMeasure_b17_j41_0 f z k)) (444 + 61 * k + 14) (r_voltsOf_v f (Int32.ofNat k) k)), l)) (at_ofN (by omega)) (by decide +kernel) (by omega) (by decide) (t2_upr) ?_
  show fl_Tq _ 225 84 [some (.inr (.inr (.inl (76, 277)))), some (.inl z), some (.inl (Int32.ofNat k)), some (.inl (r_voltsOf_v f (Int32.ofNat k) k))] [] (fl_row f 280 (upd (upd (f 280) (444 + 61 * k + 11) (r_goMeasure_b17_j41_0 f z k)) (444 + 61 * k + 14) (r_voltsOf_v f (Int32.ofNat k) k)), l) _
  refine fl_Tq.stp (pc' := 85) (lv' := [some (.inr (.inr (.inl (76, 277)))), some (.inl z), some (.inl (Int32.ofNat k)), some (.inl (r_voltsOf_v f (Int32.ofNat k) k))]) (st' := [.inr (.inr (.inl (76, 277)))]) (m' := (fl_row f 280 (upd (upd (f 280) (444 + 61 * k + 11) (r_goMeasure_b17_j41_0 f z k)) (444 + 61 * k + 14) (r_voltsOf_v f (Int32.ofNat k) k)), l)) rfl rfl (fl_bo rfl) rfl ?_
  refine fl_Tq.stp (pc' := 86) (lv' := [some (.inr (.inr (.inl (76, 277)))), some (.inl z), some (.inl (Int32.ofNat k)), some (.inl (r_voltsOf_v f (Int32.ofNat k) k))]) (st' := [.inl (Int32.ofNat k), .inr (.inr (.inl (76, 277)))]) (m' := (fl_row f 280 (upd (upd (f 280) (444 + 61 * k + 11) (r_goMeasure_b17_j41_0 f z k)) (444 + 61 * k + 14) (r_voltsOf_v f (Int32.ofNat k) k)), l)) rfl rfl (fl_bo rfl) rfl ?_
  refine fl_Tq.cB (c := (15 : Int32)) rfl (by decide +kernel) (fl_bo rfl) ?_
  refine fl_Tq.cI (c := (1 : Int32)) rfl (by decide +kernel) (fl_bo rfl) ?_
  refine fl_Tq.cal rfl rfl (fl_bo rfl) rfl ?_
  refine t2_let (C := k) (W := 15) (m' := (fl_row f 280 (upd (upd (upd (f 280) (444 + 61 * k + 11) (r_goMeasure_b17_j41_0 f z k)) (444 + 61 * k + 14) (r_voltsOf_v f (Int32.ofNat k) k)) (444 + 61 * k + 15) (1 : Int32)), l)) (at_ofN (by omega)) (by decide +kernel) (by omega) (by decide) (t2_upr) ?_
  show fl_Tq _ 225 92 [some (.inr (.inr (.inl (76, 277)))), some (.inl z), some (.inl (Int32.ofNat k)), some (.inl (r_voltsOf_v f (Int32.ofNat k) k))] [] (fl_row f 280 (upd (upd (upd (f 280) (444 + 61 * k + 11) (r_goMeasure_b17_j41_0 f z k)) (444 + 61 * k + 14) (r_voltsOf_v f (Int32.ofNat k) k)) (444 + 61 * k + 15) (1 : Int32)), l) _
  refine fl_Tq.stp (pc' := 93) (lv' := [some (.inr (.inr (.inl (76, 277)))), some (.inl z), some (.inl (Int32.ofNat k)), some (.inl (r_voltsOf_v f (Int32.ofNat k) k))]) (st' := [.inr (.inr (.inl (76, 277)))]) (m' := (fl_row f 280 (upd (upd (upd (f 280) (444 + 61 * k + 11) (r_goMeasure_b17_j41_0 f z k)) (444 + 61 * k + 14) (r_voltsOf_v f (Int32.ofNat k) k)) (444 + 61 * k + 15) (1 : Int32)), l)) rfl rfl (fl_bo rfl) rfl ?_
  refine fl_Tq.stp (pc' := 94) (lv' := [some (.inr (.inr (.inl (76, 277)))), some (.inl z), some (.inl (Int32.ofNat k)), some (.inl (r_voltsOf_v f (Int32.ofNat k) k))]) (st' := [.inl (Int32.ofNat k), .inr (.inr (.inl (76, 277)))]) (m' := (fl_row f 280 (upd (upd (upd (f 280) (444 + 61 * k + 11) (r_goMeasure_b17_j41_0 f z k)) (444 + 61 * k + 14) (r_voltsOf_v f (Int32.ofNat k) k)) (444 + 61 * k + 15) (1 : Int32)), l)) rfl rfl (fl_bo rfl) rfl ?_
  refine fl_Tq.cB (c := (13 : Int32)) rfl (by decide +kernel) (fl_bo rfl) ?_
  refine fl_Tq.stp (pc' := 97) (lv' := [some (.inr (.inr (.inl (76, 277)))), some (.inl z), some (.inl (Int32.ofNat k)), some (.inl (r_voltsOf_v f (Int32.ofNat k) k))]) (st' := [.inr (.inr (.inl (76, 277))), .inl (13 : Int32), .inl (Int32.ofNat k), .inr (.inr (.inl (76, 277)))]) (m' := (fl_row f 280 (upd (upd (upd (f 280) (444 + 61 * k + 11) (r_goMeasure_b17_j41_0 f z k)) (444 + 61 * k + 14) (r_voltsOf_v f (Int32.ofNat k) k)) (444 + 61 * k + 15) (1 : Int32)), l)) rfl rfl (fl_bo rfl) rfl ?_
  refine fl_Tq.stp (pc' := 98) (lv' := [some (.inr (.inr (.inl (76, 277)))), some (.inl z), some (.inl (Int32.ofNat k)), some (.inl (r_voltsOf_v f (Int32.ofNat k) k))]) (st' := [.inl (Int32.ofNat k), .inr (.inr (.inl (76, 277))), .inl (13 : Int32), .inl (Int32.ofNat k), .inr (.inr (.inl (76, 277)))]) (m' := (fl_row f 280 (upd (upd (upd (f 280) (444 + 61 * k + 11) (r_goMeasure_b17_j41_0 f z k)) (444 + 61 * k + 14) (r_voltsOf_v f (Int32.ofNat k) k)) (444 + 61 * k + 15) (1 : Int32)), l)) rfl rfl (fl_bo rfl) rfl ?_
  refine fl_Tq.cB (c := (13 : Int32)) rfl (by decide +kernel) (fl_bo rfl) ?_
  refine fl_Tq.cal rfl rfl (fl_bo rfl) rfl ?_
  refine t2_get (C := k) (W := 13) (v := f 280 (444 + 61 * k + 13)) (at_ofN (by omega)) (by decide +kernel) (by omega) (by decide) (by simp only [fl_row_self, upd_ne (by omega : 444 + 61 * k + 13 ≠ 444 + 61 * k + 15), upd_ne (by omega : 444 + 61 * k + 13 ≠ 444 + 61 * k + 14), upd_ne (by omega : 444 + 61 * k + 13 ≠ 444 + 61 * k + 11)]) ?_
  show fl_Tq _ 225 103 [some (.inr (.inr (.inl (76, 277)))), some (.inl z), some (.inl (Int32.ofNat k)), some (.inl (r_voltsOf_v f (Int32.ofNat k) k))] [.inl (f 280 (444 + 61 * k + 13)), .inl (13 : Int32), .inl (Int32.ofNat k), .inr (.inr (.inl (76, 277)))] (fl_row f 280 (upd (upd (upd (f 280) (444 + 61 * k + 11) (r_goMeasure_b17_j41_0 f z k)) (444 + 61 * k + 14) (r_voltsOf_v f (Int32.ofNat k) k)) (444 + 61 * k + 15) (1 : Int32)), l) _
  refine fl_Tq.stp (pc' := 104) (lv' := [some (.inr (.inr (.inl (76, 277)))), some (.inl z), some (.inl (Int32.ofNat k)), some (.inl (r_voltsOf_v f (Int32.ofNat k) k))]) (st' := [.inr (.inr (.inl (76, 277))), .inl (f 280 (444 + 61 * k + 13)), .inl (13 : Int32), .inl (Int32.ofNat k), .inr (.inr (.inl (76, 277)))]) (m' := (fl_row f 280 (upd (upd (upd (f 280) (444 + 61 * k + 11) (r_goMeasure_b17_j41_0 f z k)) (444 + 61 * k + 14) (r_voltsOf_v f (Int32.ofNat k) k)) (444 + 61 * k + 15) (1 : Int32)), l)) rfl rfl (fl_bo rfl) rfl ?_
  refine fl_Tq.stp (pc' := 107) (lv' := [some (.inr (.inr (.inl (76, 277)))), some (.inl z), some (.inl (Int32.ofNat k)), some (.inl (r_voltsOf_v f (Int32.ofNat k) k))]) (st' := [.inr (.inr (.inl (79, 280))), .inl (f 280 (444 + 61 * k + 13)), .inl (13 : Int32), .inl (Int32.ofNat k), .inr (.inr (.inl (76, 277)))]) (m' := (fl_row f 280 (upd (upd (upd (f 280) (444 + 61 * k + 11) (r_goMeasure_b17_j41_0 f z k)) (444 + 61 * k + 14) (r_voltsOf_v f (Int32.ofNat k) k)) (444 + 61 * k + 15) (1 : Int32)), l)) rfl rfl (fl_bo rfl) rfl ?_
  refine fl_Tq.cI (c := (5 : Int32)) rfl (by decide +kernel) (fl_bo rfl) ?_
  refine fl_Tq.ldV (p := 280) (τ := 79) (n := 29780) (z := (0, 0, 0)) (k := 5) (v := f 280 5) rfl (fl_bo rfl) rfl (by decide +kernel) (by decide) (by simp only [fl_row_self, upd_ne (by omega : 5 ≠ 444 + 61 * k + 15), upd_ne (by omega : 5 ≠ 444 + 61 * k + 14), upd_ne (by omega : 5 ≠ 444 + 61 * k + 11)]) ?_
  refine fl_Tq.stp (pc' := 110) (lv' := [some (.inr (.inr (.inl (76, 277)))), some (.inl z), some (.inl (Int32.ofNat k)), some (.inl (r_voltsOf_v f (Int32.ofNat k) k))]) (st' := [.inl ((f 280 (444 + 61 * k + 13)) + (f 280 5)), .inl (13 : Int32), .inl (Int32.ofNat k), .inr (.inr (.inl (76, 277)))]) (m' := (fl_row f 280 (upd (upd (upd (f 280) (444 + 61 * k + 11) (r_goMeasure_b17_j41_0 f z k)) (444 + 61 * k + 14) (r_voltsOf_v f (Int32.ofNat k) k)) (444 + 61 * k + 15) (1 : Int32)), l)) rfl rfl (fl_bo rfl) rfl ?_
  refine fl_Tq.cal rfl rfl (fl_bo rfl) rfl ?_
  refine t2_let (C := k) (W := 13) (m' := (fl_row f 280 (upd (upd (upd (upd (f 280) (444 + 61 * k + 11) (r_goMeasure_b17_j41_0 f z k)) (444 + 61 * k + 14) (r_voltsOf_v f (Int32.ofNat k) k)) (444 + 61 * k + 15) (1 : Int32)) (444 + 61 * k + 13) ((f 280 (444 + 61 * k + 13)) + (f 280 5))), l)) (at_ofN (by omega)) (by decide +kernel) (by omega) (by decide) (t2_upr) ?_
  show fl_Tq _ 225 113 [some (.inr (.inr (.inl (76, 277)))), some (.inl z), some (.inl (Int32.ofNat k)), some (.inl (r_voltsOf_v f (Int32.ofNat k) k))] [] (fl_row f 280 (upd (upd (upd (upd (f 280) (444 + 61 * k + 11) (r_goMeasure_b17_j41_0 f z k)) (444 + 61 * k + 14) (r_voltsOf_v f (Int32.ofNat k) k)) (444 + 61 * k + 15) (1 : Int32)) (444 + 61 * k + 13) ((f 280 (444 + 61 * k + 13)) + (f 280 5))), l) _
  refine fl_Tq.stp (pc' := 116) (lv' := [some (.inr (.inr (.inl (76, 277)))), some (.inl z), some (.inl ((Int32.ofNat k) + (1 : Int32))), some (.inl (r_voltsOf_v f (Int32.ofNat k) k))]) (st' := []) (m' := (fl_row f 280 (upd (upd (upd (upd (f 280) (444 + 61 * k + 11) (r_goMeasure_b17_j41_0 f z k)) (444 + 61 * k + 14) (r_voltsOf_v f (Int32.ofNat k) k)) (444 + 61 * k + 15) (1 : Int32)) (444 + 61 * k + 13) ((f 280 (444 + 61 * k + 13)) + (f 280 5))), l)) rfl rfl (fl_bo rfl) rfl ?_
  refine fl_Tq.stp (pc' := 17) (lv' := [some (.inr (.inr (.inl (76, 277)))), some (.inl z), some (.inl ((Int32.ofNat k) + (1 : Int32))), some (.inl (r_voltsOf_v f (Int32.ofNat k) k))]) (st' := []) (m' := (fl_row f 280 (upd (upd (upd (upd (f 280) (444 + 61 * k + 11) (r_goMeasure_b17_j41_0 f z k)) (444 + 61 * k + 14) (r_voltsOf_v f (Int32.ofNat k) k)) (444 + 61 * k + 15) (1 : Int32)) (444 + 61 * k + 13) ((f 280 (444 + 61 * k + 13)) + (f 280 5))), l)) rfl rfl (fl_bo rfl) rfl ?_
  have em : r_goMeasure_b17_m f z k = fl_row f 280 (upd (upd (upd (upd (f 280) (444 + 61 * k + 11) (r_goMeasure_b17_j41_0 f z k)) (444 + 61 * k + 14) (r_voltsOf_v f (Int32.ofNat k) k)) (444 + 61 * k + 15) (1 : Int32)) (444 + 61 * k + 13) ((f 280 (444 + 61 * k + 13)) + (f 280 5))) := rfl
  rw [em, ← t2_k1] at hS
  exact fl_Tq.fg hS ⟨rfl, rfl, rfl, True.intro⟩
noncomputable def r_goMeasure_f17 (f : t2_F)  : Nat → t2_F
  | 0 => f
  | k + 1 => r_goMeasure_b17_m (r_goMeasure_f17 f k) ((f 280 5) - (f 280 14)) k
theorem r_goMeasure_f17_fr {f : t2_F}  {p : Nat} : ∀ {k : Nat}  (e280 : p ≠ 280), r_goMeasure_f17 f k p = f p := by
  intro k
  induction k with
  | zero => intros; rfl
  | succ k ih =>
    intro  e280
    exact (r_goMeasure_b17_fr (z := (f 280 5) - (f 280 14)) (k := k)  e280).trans (ih  e280)
theorem r_goMeasure_f17_w {f : t2_F}  {w : Nat} : ∀ {k : Nat} (e0 : ∀ j : Nat, j < k → w ≠ 444 + 61 * j + 11) (e1 : ∀ j : Nat, j < k → w ≠ 444 + 61 * j + 14) (e2 : ∀ j : Nat, j < k → w ≠ 444 + 61 * j + 15) (e3 : ∀ j : Nat, j < k → w ≠ 444 + 61 * j + 13), r_goMeasure_f17 f k 280 w = f 280 w := by
  intro k
  induction k with
  | zero => intros; rfl
  | succ k ih =>
    intro e0 e1 e2 e3
    exact (r_goMeasure_b17_w (z := (f 280 5) - (f 280 14)) (k := k) (e0 k (by omega)) (e1 k (by omega)) (e2 k (by omega)) (e3 k (by omega))).trans (ih (fun j hj => e0 j (by omega)) (fun j hj => e1 j (by omega)) (fun j hj => e2 j (by omega)) (fun j hj => e3 j (by omega)))
noncomputable def r_goMeasure_j144_0 (f : t2_F)  : Int32 := if (f 280 5).toInt = 0 then (f 280 9) + (1 : Int32) else (0 : Int32)
noncomputable def r_goMeasure_b163_m (f : t2_F) (z : Int32) (k : Nat) : t2_F := r_restNow_m f (Int32.ofNat k) k
theorem r_goMeasure_b163_fr {f : t2_F} {z : Int32} {k : Nat} {p : Nat}  (e280 : p ≠ 280) : r_goMeasure_b163_m f z k p = f p := by
  unfold r_goMeasure_b163_m
  repeat' split
  all_goals first | rfl | simp only [fl_row_ne e280, r_restNow_fr e280]
theorem r_goMeasure_b163_w {f : t2_F} {z : Int32} {k : Nat} {w : Nat} (e0 : w ≠ 444 + 61 * k + 4) (e1 : w ≠ 444 + 61 * k + 12) (e2 : w ≠ 444 + 61 * k + 16) (e3 : w ≠ 444 + 61 * k + 13) : r_goMeasure_b163_m f z k 280 w = f 280 w := by
  unfold r_goMeasure_b163_m
  repeat' split
  all_goals first | rfl | simp only [fl_row_self, upd_ne e0, upd_ne e1, upd_ne e2, upd_ne e3, r_restNow_w e0 e1 e2 e3]
theorem r_goMeasure_b163_q {L : Nat} {xs : Nat → Int32} {f : t2_F} {l : t2_L} {Q : Option fl_V → fl_M → Prop} {z : Int32} {k : Nat} {n : Nat} (hkn : k < n) (hb : (f 280 2).toInt = (n : Int)) (h16 : n ≤ 16) (hr : t2_RS f) (hkk : t2_ck f k) (hww : -1 ≤ (f 280 (444 + 61 * k + 16)).toInt ∧ (f 280 (444 + 61 * k + 16)).toInt ≤ 1000) (h9 : (f 280 9).toInt = (f 280 53).toInt) (hS : fl_Tq (pw_P L xs) 225 163 [some (.inr (.inr (.inl (76, 277)))), some (.inl z), some (.inl (Int32.ofNat (k + 1))), none] [] (r_goMeasure_b163_m f z k, l) Q) : fl_Tq (pw_P L xs) 225 163 [some (.inr (.inr (.inl (76, 277)))), some (.inl z), some (.inl (Int32.ofNat k)), none] [] (f, l) Q := by
  refine fl_Tq.stp (pc' := 164) (lv' := [some (.inr (.inr (.inl (76, 277)))), some (.inl z), some (.inl (Int32.ofNat k)), none]) (st' := [.inl (Int32.ofNat k)]) (m' := (f, l)) rfl rfl (fl_bo rfl) rfl ?_
  refine fl_Tq.stp (pc' := 165) (lv' := [some (.inr (.inr (.inl (76, 277)))), some (.inl z), some (.inl (Int32.ofNat k)), none]) (st' := [.inr (.inr (.inl (76, 277))), .inl (Int32.ofNat k)]) (m' := (f, l)) rfl rfl (fl_bo rfl) rfl ?_
  refine fl_Tq.stp (pc' := 168) (lv' := [some (.inr (.inr (.inl (76, 277)))), some (.inl z), some (.inl (Int32.ofNat k)), none]) (st' := [.inr (.inr (.inl (79, 280))), .inl (Int32.ofNat k)]) (m' := (f, l)) rfl rfl (fl_bo rfl) rfl ?_
  refine fl_Tq.cI (c := (2 : Int32)) rfl (by decide +kernel) (fl_bo rfl) ?_
  refine fl_Tq.ldV (p := 280) (τ := 79) (n := 29780) (z := (0, 0, 0)) (k := 2) (v := f 280 2) rfl (fl_bo rfl) rfl (by decide +kernel) (by decide) rfl ?_
  refine fl_Tq.jf rfl (fl_bo rfl) (c2_ge_f (t2_lk hkn hb)) rfl ?_
  refine fl_Tq.stp (pc' := 174) (lv' := [some (.inr (.inr (.inl (76, 277)))), some (.inl z), some (.inl (Int32.ofNat k)), none]) (st' := [.inr (.inr (.inl (76, 277)))]) (m' := (f, l)) rfl rfl (fl_bo rfl) rfl ?_
  refine fl_Tq.stp (pc' := 177) (lv' := [some (.inr (.inr (.inl (76, 277)))), some (.inl z), some (.inl (Int32.ofNat k)), none]) (st' := [.inr (.inr (.inl (79, 280)))]) (m' := (f, l)) rfl rfl (fl_bo rfl) rfl ?_
  refine fl_Tq.cB (c := (9 : Int32)) rfl (by decide +kernel) (fl_bo rfl) ?_
  refine fl_Tq.ldV (p := 280) (τ := 79) (n := 29780) (z := (0, 0, 0)) (k := 9) (v := f 280 9) rfl (fl_bo rfl) rfl (by decide +kernel) (by decide) rfl ?_
  refine fl_Tq.stp (pc' := 181) (lv' := [some (.inr (.inr (.inl (76, 277)))), some (.inl z), some (.inl (Int32.ofNat k)), none]) (st' := [.inr (.inr (.inl (76, 277))), .inl (f 280 9)]) (m' := (f, l)) rfl rfl (fl_bo rfl) rfl ?_
  refine fl_Tq.cB (c := (19 : Int32)) rfl (by decide +kernel) (fl_bo rfl) ?_
  refine fl_Tq.cal rfl rfl (fl_bo rfl) rfl ?_
  refine t2_its (W := 19) (v := f 280 53) (by decide +kernel) (by decide) rfl ?_
  show fl_Tq _ 225 186 [some (.inr (.inr (.inl (76, 277)))), some (.inl z), some (.inl (Int32.ofNat k)), none] [.inl (f 280 53), .inl (f 280 9)] (f, l) _
  refine fl_Tq.jf rfl (fl_bo rfl) (c2_ne_f h9) rfl ?_
  refine fl_Tq.stp (pc' := 190) (lv' := [some (.inr (.inr (.inl (76, 277)))), some (.inl z), some (.inl (Int32.ofNat k)), none]) (st' := [.inr (.inr (.inl (76, 277)))]) (m' := (f, l)) rfl rfl (fl_bo rfl) rfl ?_
  refine fl_Tq.stp (pc' := 191) (lv' := [some (.inr (.inr (.inl (76, 277)))), some (.inl z), some (.inl (Int32.ofNat k)), none]) (st' := [.inl (Int32.ofNat k), .inr (.inr (.inl (76, 277)))]) (m' := (f, l)) rfl rfl (fl_bo rfl) rfl ?_
  refine fl_Tq.cal rfl rfl (fl_bo rfl) rfl ?_
  refine r_restNow_q (at_ofN (by omega)) (by omega) hr hkk hww ?_
  show fl_Tq _ 225 194 [some (.inr (.inr (.inl (76, 277)))), some (.inl z), some (.inl (Int32.ofNat k)), none] [] (r_restNow_m f (Int32.ofNat k) k, l) _
  refine fl_Tq.stp (pc' := 197) (lv' := [some (.inr (.inr (.inl (76, 277)))), some (.inl z), some (.inl ((Int32.ofNat k) + (1 : Int32))), none]) (st' := []) (m' := (r_restNow_m f (Int32.ofNat k) k, l)) rfl rfl (fl_bo rfl) rfl ?_
  refine fl_Tq.stp (pc' := 163) (lv' := [some (.inr (.inr (.inl (76, 277)))), some (.inl z), some (.inl ((Int32.ofNat k) + (1 : Int32))), none]) (st' := []) (m' := (r_restNow_m f (Int32.ofNat k) k, l)) rfl rfl (fl_bo rfl) rfl ?_
  have em : r_goMeasure_b163_m f z k = r_restNow_m f (Int32.ofNat k) k := rfl
  rw [em, ← t2_k1] at hS
  exact hS
noncomputable def r_goMeasure_f163 (f : t2_F)  : Nat → t2_F
  | 0 => fl_row (r_goMeasure_f17 f ((f 280 2).toInt.toNat)) 280 (upd (upd ((r_goMeasure_f17 f ((f 280 2).toInt.toNat)) 280) 14 (f 280 5)) 9 (r_goMeasure_j144_0 f))
  | k + 1 => r_goMeasure_b163_m (r_goMeasure_f163 f k) ((f 280 5) - (f 280 14)) k
theorem r_goMeasure_f163_fr {f : t2_F}  {p : Nat} : ∀ {k : Nat}  (e280 : p ≠ 280), r_goMeasure_f163 f k p = (fl_row (r_goMeasure_f17 f ((f 280 2).toInt.toNat)) 280 (upd (upd ((r_goMeasure_f17 f ((f 280 2).toInt.toNat)) 280) 14 (f 280 5)) 9 (r_goMeasure_j144_0 f))) p := by
  intro k
  induction k with
  | zero => intros; rfl
  | succ k ih =>
    intro  e280
    exact (r_goMeasure_b163_fr (z := (f 280 5) - (f 280 14)) (k := k)  e280).trans (ih  e280)
theorem r_goMeasure_f163_w {f : t2_F}  {w : Nat} : ∀ {k : Nat} (e0 : ∀ j : Nat, j < k → w ≠ 444 + 61 * j + 4) (e1 : ∀ j : Nat, j < k → w ≠ 444 + 61 * j + 12) (e2 : ∀ j : Nat, j < k → w ≠ 444 + 61 * j + 16) (e3 : ∀ j : Nat, j < k → w ≠ 444 + 61 * j + 13), r_goMeasure_f163 f k 280 w = (fl_row (r_goMeasure_f17 f ((f 280 2).toInt.toNat)) 280 (upd (upd ((r_goMeasure_f17 f ((f 280 2).toInt.toNat)) 280) 14 (f 280 5)) 9 (r_goMeasure_j144_0 f))) 280 w := by
  intro k
  induction k with
  | zero => intros; rfl
  | succ k ih =>
    intro e0 e1 e2 e3
    exact (r_goMeasure_b163_w (z := (f 280 5) - (f 280 14)) (k := k) (e0 k (by omega)) (e1 k (by omega)) (e2 k (by omega)) (e3 k (by omega))).trans (ih (fun j hj => e0 j (by omega)) (fun j hj => e1 j (by omega)) (fun j hj => e2 j (by omega)) (fun j hj => e3 j (by omega)))
noncomputable def r_goMeasure_j204_0 (f : t2_F)  : Int32 := if (r_isLive_v (r_goMeasure_f163 f ((f 280 2).toInt.toNat))).toInt = 0 then (r_goMeasure_f163 f ((f 280 2).toInt.toNat)) 280 4 else r_pack_v (r_goMeasure_f163 f ((f 280 2).toInt.toNat))
noncomputable def r_goMeasure_j204_1 (f : t2_F)  : Int32 := if (r_isLive_v (fl_row (r_goMeasure_f17 f ((f 280 2).toInt.toNat)) 280 (upd (upd ((r_goMeasure_f17 f ((f 280 2).toInt.toNat)) 280) 14 (f 280 5)) 9 (r_goMeasure_j144_0 f)))).toInt = 0 then (r_goMeasure_f17 f ((f 280 2).toInt.toNat)) 280 4 else r_pack_v (fl_row (r_goMeasure_f17 f ((f 280 2).toInt.toNat)) 280 (upd (upd ((r_goMeasure_f17 f ((f 280 2).toInt.toNat)) 280) 14 (f 280 5)) 9 (r_goMeasure_j144_0 f)))
noncomputable def r_goMeasure_m (f : t2_F) : t2_F := if (r_goMeasure_j144_0 f).toInt = (f 280 53).toInt then fl_row (r_goMeasure_f163 f ((f 280 2).toInt.toNat)) 280 (upd ((r_goMeasure_f163 f ((f 280 2).toInt.toNat)) 280) 4 (r_goMeasure_j204_0 f)) else fl_row (r_goMeasure_f17 f ((f 280 2).toInt.toNat)) 280 (upd (upd (upd ((r_goMeasure_f17 f ((f 280 2).toInt.toNat)) 280) 14 (f 280 5)) 9 (r_goMeasure_j144_0 f)) 4 (r_goMeasure_j204_1 f))
theorem r_goMeasure_fr {f : t2_F}  {p : Nat}  (e280 : p ≠ 280) : r_goMeasure_m f p = f p := by
  unfold r_goMeasure_m
  repeat' split
  all_goals first | rfl | simp only [fl_row_ne e280, r_goMeasure_f163_fr (k := (f 280 2).toInt.toNat) e280, r_goMeasure_f17_fr (k := (f 280 2).toInt.toNat) e280]
theorem r_goMeasure_w {f : t2_F}  {w : Nat} (e0 : w ≠ 4) (e1 : ∀ j : Nat, w ≠ 444 + 61 * j + 4) (e2 : ∀ j : Nat, w ≠ 444 + 61 * j + 12) (e3 : ∀ j : Nat, w ≠ 444 + 61 * j + 16) (e4 : ∀ j : Nat, w ≠ 444 + 61 * j + 13) (e5 : w ≠ 14) (e6 : w ≠ 9) (e7 : ∀ j : Nat, w ≠ 444 + 61 * j + 11) (e8 : ∀ j : Nat, w ≠ 444 + 61 * j + 14) (e9 : ∀ j : Nat, w ≠ 444 + 61 * j + 15) : r_goMeasure_m f 280 w = f 280 w := by
  unfold r_goMeasure_m
  repeat' split
  all_goals first | rfl | simp only [fl_row_self, upd_ne e0, upd_ne e5, upd_ne e6, r_goMeasure_f163_w (k := (f 280 2).toInt.toNat) (fun j hj => e1 j) (fun j hj => e2 j) (fun j hj => e3 j) (fun j hj => e4 j), r_goMeasure_f17_w (k := (f 280 2).toInt.toNat) (fun j hj => e7 j) (fun j hj => e8 j) (fun j hj => e9 j) (fun j hj => e4 j)]
theorem r_goMeasure_q {L : Nat} {xs : Nat → Int32} {f : t2_F} {l : t2_L} {Q : Option fl_V → fl_M → Prop}  (hn : 0 ≤ (f 280 2).toInt ∧ (f 280 2).toInt ≤ 16) (hr : t2_RS f) (hk : ∀ C : Nat, (C : Int) < (f 280 2).toInt → t2_ck f C) (hw : ∀ C : Nat, (C : Int) < (f 280 2).toInt → -1 ≤ (f 280 (444 + 61 * C + 16)).toInt ∧ (f 280 (444 + 61 * C + 16)).toInt ≤ 1000) (k : Q none (r_goMeasure_m f, l)) : fl_Tq (pw_P L xs) 225 0 (fl_args (am_mxl (pw_P L xs) 225) [.inr (.inr (.inl (76, 277)))]) [] (f, l) Q := by
  refine fl_Tq.stp (pc' := 1) (lv' := [some (.inr (.inr (.inl (76, 277)))), none, none, none]) (st' := [.inr (.inr (.inl (76, 277)))]) (m' := (f, l)) rfl rfl (fl_bo rfl) rfl ?_
  refine fl_Tq.stp (pc' := 4) (lv' := [some (.inr (.inr (.inl (76, 277)))), none, none, none]) (st' := [.inr (.inr (.inl (79, 280)))]) (m' := (f, l)) rfl rfl (fl_bo rfl) rfl ?_
  refine fl_Tq.cI (c := (5 : Int32)) rfl (by decide +kernel) (fl_bo rfl) ?_
  refine fl_Tq.ldV (p := 280) (τ := 79) (n := 29780) (z := (0, 0, 0)) (k := 5) (v := f 280 5) rfl (fl_bo rfl) rfl (by decide +kernel) (by decide) rfl ?_
  refine fl_Tq.stp (pc' := 7) (lv' := [some (.inr (.inr (.inl (76, 277)))), none, none, none]) (st' := [.inr (.inr (.inl (76, 277))), .inl (f 280 5)]) (m' := (f, l)) rfl rfl (fl_bo rfl) rfl ?_
  refine fl_Tq.stp (pc' := 10) (lv' := [some (.inr (.inr (.inl (76, 277)))), none, none, none]) (st' := [.inr (.inr (.inl (79, 280))), .inl (f 280 5)]) (m' := (f, l)) rfl rfl (fl_bo rfl) rfl ?_
  refine fl_Tq.cB (c := (14 : Int32)) rfl (by decide +kernel) (fl_bo rfl) ?_
  refine fl_Tq.ldV (p := 280) (τ := 79) (n := 29780) (z := (0, 0, 0)) (k := 14) (v := f 280 14) rfl (fl_bo rfl) rfl (by decide +kernel) (by decide) rfl ?_
  refine fl_Tq.stp (pc' := 14) (lv' := [some (.inr (.inr (.inl (76, 277)))), none, none, none]) (st' := [.inl ((f 280 5) - (f 280 14))]) (m' := (f, l)) rfl rfl (fl_bo rfl) rfl ?_
  refine fl_Tq.stp (pc' := 15) (lv' := [some (.inr (.inr (.inl (76, 277)))), some (.inl ((f 280 5) - (f 280 14))), none, none]) (st' := []) (m' := (f, l)) rfl rfl (fl_bo rfl) rfl ?_
  refine fl_Tq.cI (c := (0 : Int32)) rfl (by decide +kernel) (fl_bo rfl) ?_
  refine fl_Tq.stp (pc' := 17) (lv' := [some (.inr (.inr (.inl (76, 277)))), some (.inl ((f 280 5) - (f 280 14))), some (.inl (0 : Int32)), none]) (st' := []) (m' := (f, l)) rfl rfl (fl_bo rfl) rfl ?_
  have hs17 : ∀ k : Nat, k < (f 280 2).toInt.toNat → fl_Tq (pw_P L xs) 225 17 [some (.inr (.inr (.inl (76, 277)))), some (.inl ((f 280 5) - (f 280 14))), some (.inl (Int32.ofNat (k + 1))), none] [] (r_goMeasure_f17 f (k + 1), l) Q → fl_Tq (pw_P L xs) 225 17 [some (.inr (.inr (.inl (76, 277)))), some (.inl ((f 280 5) - (f 280 14))), some (.inl (Int32.ofNat k)), none] [] (r_goMeasure_f17 f k, l) Q := fun k hkn hS => r_goMeasure_b17_q hkn (by simp only [r_goMeasure_f17_w (k := k) (w := 2) (fun j hj => by omega) (fun j hj => by omega) (fun j hj => by omega) (fun j hj => by omega)]; exact (t2_nn hn.1)) (by omega) (fun j => by simp only [r_goMeasure_f17_fr (k := k) (p := 279) (by decide : 279 ≠ 280)]; exact hr j) (by unfold t2_ck; simp only [r_goMeasure_f17_w (k := k) (w := 444 + 61 * k + 0) (fun j hj => by omega) (fun j hj => by omega) (fun j hj => by omega) (fun j hj => by omega), r_goMeasure_f17_w (k := k) (w := 444 + 61 * k + 1) (fun j hj => by omega) (fun j hj => by omega) (fun j hj => by omega) (fun j hj => by omega), r_goMeasure_f17_w (k := k) (w := 444 + 61 * k + 16) (fun j hj => by omega) (fun j hj => by omega) (fun j hj => by omega) (fun j hj => by omega)]; exact hk k (by omega)) hS
  refine t2_for (S := fun k => fl_Tq (pw_P L xs) 225 17 [some (.inr (.inr (.inl (76, 277)))), some (.inl ((f 280 5) - (f 280 14))), some (.inl (Int32.ofNat k)), none] [] (r_goMeasure_f17 f k, l) Q) hs17 ?_
  show fl_Tq (pw_P L xs) 225 17 [some (.inr (.inr (.inl (76, 277)))), some (.inl ((f 280 5) - (f 280 14))), some (.inl (Int32.ofNat ((f 280 2).toInt.toNat))), none] [] (r_goMeasure_f17 f ((f 280 2).toInt.toNat), l) _
  refine fl_Tq.stp (pc' := 18) (lv' := [some (.inr (.inr (.inl (76, 277)))), some (.inl ((f 280 5) - (f 280 14))), some (.inl (Int32.ofNat ((f 280 2).toInt.toNat))), none]) (st' := [.inl (Int32.ofNat ((f 280 2).toInt.toNat))]) (m' := (r_goMeasure_f17 f ((f 280 2).toInt.toNat), l)) rfl rfl (fl_bo rfl) rfl ?_
  refine fl_Tq.stp (pc' := 19) (lv' := [some (.inr (.inr (.inl (76, 277)))), some (.inl ((f 280 5) - (f 280 14))), some (.inl (Int32.ofNat ((f 280 2).toInt.toNat))), none]) (st' := [.inr (.inr (.inl (76, 277))), .inl (Int32.ofNat ((f 280 2).toInt.toNat))]) (m' := (r_goMeasure_f17 f ((f 280 2).toInt.toNat), l)) rfl rfl (fl_bo rfl) rfl ?_
  refine fl_Tq.stp (pc' := 22) (lv' := [some (.inr (.inr (.inl (76, 277)))), some (.inl ((f 280 5) - (f 280 14))), some (.inl (Int32.ofNat ((f 280 2).toInt.toNat))), none]) (st' := [.inr (.inr (.inl (79, 280))), .inl (Int32.ofNat ((f 280 2).toInt.toNat))]) (m' := (r_goMeasure_f17 f ((f 280 2).toInt.toNat), l)) rfl rfl (fl_bo rfl) rfl ?_
  refine fl_Tq.cI (c := (2 : Int32)) rfl (by decide +kernel) (fl_bo rfl) ?_
  refine fl_Tq.ldV (p := 280) (τ := 79) (n := 29780) (z := (0, 0, 0)) (k := 2) (v := f 280 2) rfl (fl_bo rfl) rfl (by decide +kernel) (by decide) (by simp only [r_goMeasure_f17_w (k := (f 280 2).toInt.toNat) (w := 2) (fun j hj => by omega) (fun j hj => by omega) (fun j hj => by omega) (fun j hj => by omega)]) ?_
  refine fl_Tq.jt rfl (fl_bo rfl) (c2_ge_t (t2_ln (t2_nn hn.1))) rfl ?_
  refine fl_Tq.stp (pc' := 120) (lv' := [some (.inr (.inr (.inl (76, 277)))), some (.inl ((f 280 5) - (f 280 14))), some (.inl (Int32.ofNat ((f 280 2).toInt.toNat))), none]) (st' := [.inr (.inr (.inl (76, 277)))]) (m' := (r_goMeasure_f17 f ((f 280 2).toInt.toNat), l)) rfl rfl (fl_bo rfl) rfl ?_
  refine fl_Tq.stp (pc' := 123) (lv' := [some (.inr (.inr (.inl (76, 277)))), some (.inl ((f 280 5) - (f 280 14))), some (.inl (Int32.ofNat ((f 280 2).toInt.toNat))), none]) (st' := [.inr (.inr (.inl (79, 280)))]) (m' := (r_goMeasure_f17 f ((f 280 2).toInt.toNat), l)) rfl rfl (fl_bo rfl) rfl ?_
  refine fl_Tq.cB (c := (14 : Int32)) rfl (by decide +kernel) (fl_bo rfl) ?_
  refine fl_Tq.stp (pc' := 126) (lv' := [some (.inr (.inr (.inl (76, 277)))), some (.inl ((f 280 5) - (f 280 14))), some (.inl (Int32.ofNat ((f 280 2).toInt.toNat))), none]) (st' := [.inr (.inr (.inl (76, 277))), .inl (14 : Int32), .inr (.inr (.inl (79, 280)))]) (m' := (r_goMeasure_f17 f ((f 280 2).toInt.toNat), l)) rfl rfl (fl_bo rfl) rfl ?_
  refine fl_Tq.stp (pc' := 129) (lv' := [some (.inr (.inr (.inl (76, 277)))), some (.inl ((f 280 5) - (f 280 14))), some (.inl (Int32.ofNat ((f 280 2).toInt.toNat))), none]) (st' := [.inr (.inr (.inl (79, 280))), .inl (14 : Int32), .inr (.inr (.inl (79, 280)))]) (m' := (r_goMeasure_f17 f ((f 280 2).toInt.toNat), l)) rfl rfl (fl_bo rfl) rfl ?_
  refine fl_Tq.cI (c := (5 : Int32)) rfl (by decide +kernel) (fl_bo rfl) ?_
  refine fl_Tq.ldV (p := 280) (τ := 79) (n := 29780) (z := (0, 0, 0)) (k := 5) (v := f 280 5) rfl (fl_bo rfl) rfl (by decide +kernel) (by decide) (by simp only [r_goMeasure_f17_w (k := (f 280 2).toInt.toNat) (w := 5) (fun j hj => by omega) (fun j hj => by omega) (fun j hj => by omega) (fun j hj => by omega)]) ?_
  refine fl_Tq.svV (p := 280) (τ := 79) (n := 29780) (z := (0, 0, 0)) (k := 14) (m' := (fl_row (r_goMeasure_f17 f ((f 280 2).toInt.toNat)) 280 (upd ((r_goMeasure_f17 f ((f 280 2).toInt.toNat)) 280) 14 (f 280 5)), l)) rfl (fl_bo rfl) rfl (by decide +kernel) (by decide) (t2_upn rfl) ?_
  refine fl_Tq.stp (pc' := 133) (lv' := [some (.inr (.inr (.inl (76, 277)))), some (.inl ((f 280 5) - (f 280 14))), some (.inl (Int32.ofNat ((f 280 2).toInt.toNat))), none]) (st' := [.inr (.inr (.inl (76, 277)))]) (m' := (fl_row (r_goMeasure_f17 f ((f 280 2).toInt.toNat)) 280 (upd ((r_goMeasure_f17 f ((f 280 2).toInt.toNat)) 280) 14 (f 280 5)), l)) rfl rfl (fl_bo rfl) rfl ?_
  refine fl_Tq.stp (pc' := 136) (lv' := [some (.inr (.inr (.inl (76, 277)))), some (.inl ((f 280 5) - (f 280 14))), some (.inl (Int32.ofNat ((f 280 2).toInt.toNat))), none]) (st' := [.inr (.inr (.inl (79, 280)))]) (m' := (fl_row (r_goMeasure_f17 f ((f 280 2).toInt.toNat)) 280 (upd ((r_goMeasure_f17 f ((f 280 2).toInt.toNat)) 280) 14 (f 280 5)), l)) rfl rfl (fl_bo rfl) rfl ?_
  refine fl_Tq.cB (c := (9 : Int32)) rfl (by decide +kernel) (fl_bo rfl) ?_
  refine fl_Tq.stp (pc' := 139) (lv' := [some (.inr (.inr (.inl (76, 277)))), some (.inl ((f 280 5) - (f 280 14))), some (.inl (Int32.ofNat ((f 280 2).toInt.toNat))), none]) (st' := [.inr (.inr (.inl (76, 277))), .inl (9 : Int32), .inr (.inr (.inl (79, 280)))]) (m' := (fl_row (r_goMeasure_f17 f ((f 280 2).toInt.toNat)) 280 (upd ((r_goMeasure_f17 f ((f 280 2).toInt.toNat)) 280) 14 (f 280 5)), l)) rfl rfl (fl_bo rfl) rfl ?_
  refine fl_Tq.stp (pc' := 142) (lv' := [some (.inr (.inr (.inl (76, 277)))), some (.inl ((f 280 5) - (f 280 14))), some (.inl (Int32.ofNat ((f 280 2).toInt.toNat))), none]) (st' := [.inr (.inr (.inl (79, 280))), .inl (9 : Int32), .inr (.inr (.inl (79, 280)))]) (m' := (fl_row (r_goMeasure_f17 f ((f 280 2).toInt.toNat)) 280 (upd ((r_goMeasure_f17 f ((f 280 2).toInt.toNat)) 280) 14 (f 280 5)), l)) rfl rfl (fl_bo rfl) rfl ?_
  refine fl_Tq.cI (c := (5 : Int32)) rfl (by decide +kernel) (fl_bo rfl) ?_
  refine fl_Tq.ldV (p := 280) (τ := 79) (n := 29780) (z := (0, 0, 0)) (k := 5) (v := f 280 5) rfl (fl_bo rfl) rfl (by decide +kernel) (by decide) (by simp only [fl_row_self, upd_ne (by decide : 5 ≠ 14), r_goMeasure_f17_w (k := (f 280 2).toInt.toNat) (w := 5) (fun j hj => by omega) (fun j hj => by omega) (fun j hj => by omega) (fun j hj => by omega)]) ?_
  have hj78 : fl_Tq (pw_P L xs) 225 160 [some (.inr (.inr (.inl (76, 277)))), some (.inl ((f 280 5) - (f 280 14))), some (.inl (Int32.ofNat ((f 280 2).toInt.toNat))), none] [.inl (r_goMeasure_j144_0 f), .inl (9 : Int32), .inr (.inr (.inl (79, 280)))] (fl_row (r_goMeasure_f17 f ((f 280 2).toInt.toNat)) 280 (upd ((r_goMeasure_f17 f ((f 280 2).toInt.toNat)) 280) 14 (f 280 5)), l) Q → fl_Tq (pw_P L xs) 225 144 [some (.inr (.inr (.inl (76, 277)))), some (.inl ((f 280 5) - (f 280 14))), some (.inl (Int32.ofNat ((f 280 2).toInt.toNat))), none] [.inl (f 280 5), .inl (9 : Int32), .inr (.inr (.inl (79, 280)))] (fl_row (r_goMeasure_f17 f ((f 280 2).toInt.toNat)) 280 (upd ((r_goMeasure_f17 f ((f 280 2).toInt.toNat)) 280) 14 (f 280 5)), l) Q := by
    intro hJ
    by_cases h1 : (f 280 5).toInt = 0
    · refine fl_Tq.zf rfl (fl_bo rfl) (c1_ne_f h1) rfl ?_
      refine fl_Tq.stp (pc' := 148) (lv' := [some (.inr (.inr (.inl (76, 277)))), some (.inl ((f 280 5) - (f 280 14))), some (.inl (Int32.ofNat ((f 280 2).toInt.toNat))), none]) (st' := [.inr (.inr (.inl (76, 277))), .inl (9 : Int32), .inr (.inr (.inl (79, 280)))]) (m' := (fl_row (r_goMeasure_f17 f ((f 280 2).toInt.toNat)) 280 (upd ((r_goMeasure_f17 f ((f 280 2).toInt.toNat)) 280) 14 (f 280 5)), l)) rfl rfl (fl_bo rfl) rfl ?_
      refine fl_Tq.stp (pc' := 151) (lv' := [some (.inr (.inr (.inl (76, 277)))), some (.inl ((f 280 5) - (f 280 14))), some (.inl (Int32.ofNat ((f 280 2).toInt.toNat))), none]) (st' := [.inr (.inr (.inl (79, 280))), .inl (9 : Int32), .inr (.inr (.inl (79, 280)))]) (m' := (fl_row (r_goMeasure_f17 f ((f 280 2).toInt.toNat)) 280 (upd ((r_goMeasure_f17 f ((f 280 2).toInt.toNat)) 280) 14 (f 280 5)), l)) rfl rfl (fl_bo rfl) rfl ?_
      refine fl_Tq.cB (c := (9 : Int32)) rfl (by decide +kernel) (fl_bo rfl) ?_
      refine fl_Tq.ldV (p := 280) (τ := 79) (n := 29780) (z := (0, 0, 0)) (k := 9) (v := f 280 9) rfl (fl_bo rfl) rfl (by decide +kernel) (by decide) (by simp only [fl_row_self, upd_ne (by decide : 9 ≠ 14), r_goMeasure_f17_w (k := (f 280 2).toInt.toNat) (w := 9) (fun j hj => by omega) (fun j hj => by omega) (fun j hj => by omega) (fun j hj => by omega)]) ?_
      refine fl_Tq.cI (c := (1 : Int32)) rfl (by decide +kernel) (fl_bo rfl) ?_
      refine fl_Tq.stp (pc' := 156) (lv' := [some (.inr (.inr (.inl (76, 277)))), some (.inl ((f 280 5) - (f 280 14))), some (.inl (Int32.ofNat ((f 280 2).toInt.toNat))), none]) (st' := [.inl ((f 280 9) + (1 : Int32)), .inl (9 : Int32), .inr (.inr (.inl (79, 280)))]) (m' := (fl_row (r_goMeasure_f17 f ((f 280 2).toInt.toNat)) 280 (upd ((r_goMeasure_f17 f ((f 280 2).toInt.toNat)) 280) 14 (f 280 5)), l)) rfl rfl (fl_bo rfl) rfl ?_
      refine fl_Tq.stp (pc' := 160) (lv' := [some (.inr (.inr (.inl (76, 277)))), some (.inl ((f 280 5) - (f 280 14))), some (.inl (Int32.ofNat ((f 280 2).toInt.toNat))), none]) (st' := [.inl ((f 280 9) + (1 : Int32)), .inl (9 : Int32), .inr (.inr (.inl (79, 280)))]) (m' := (fl_row (r_goMeasure_f17 f ((f 280 2).toInt.toNat)) 280 (upd ((r_goMeasure_f17 f ((f 280 2).toInt.toNat)) 280) 14 (f 280 5)), l)) rfl rfl (fl_bo rfl) rfl ?_
      have e0 : (r_goMeasure_j144_0 f) = (f 280 9) + (1 : Int32) := by simp only [r_goMeasure_j144_0, if_pos h1]
      rw [e0] at hJ
      exact hJ
    · refine fl_Tq.zt rfl (fl_bo rfl) (c1_ne_t h1) rfl ?_
      refine fl_Tq.cI (c := (0 : Int32)) rfl (by decide +kernel) (fl_bo rfl) ?_
      have e0 : (r_goMeasure_j144_0 f) = (0 : Int32) := by simp only [r_goMeasure_j144_0, if_neg h1]
      rw [e0] at hJ
      exact hJ
  refine hj78 ?_
  show fl_Tq _ 225 160 [some (.inr (.inr (.inl (76, 277)))), some (.inl ((f 280 5) - (f 280 14))), some (.inl (Int32.ofNat ((f 280 2).toInt.toNat))), none] [.inl (r_goMeasure_j144_0 f), .inl (9 : Int32), .inr (.inr (.inl (79, 280)))] (fl_row (r_goMeasure_f17 f ((f 280 2).toInt.toNat)) 280 (upd ((r_goMeasure_f17 f ((f 280 2).toInt.toNat)) 280) 14 (f 280 5)), l) _
  refine fl_Tq.svV (p := 280) (τ := 79) (n := 29780) (z := (0, 0, 0)) (k := 9) (m' := (fl_row (r_goMeasure_f17 f ((f 280 2).toInt.toNat)) 280 (upd (upd ((r_goMeasure_f17 f ((f 280 2).toInt.toNat)) 280) 14 (f 280 5)) 9 (r_goMeasure_j144_0 f)), l)) rfl (fl_bo rfl) rfl (by decide +kernel) (by decide) (t2_upr) ?_
  refine fl_Tq.cI (c := (0 : Int32)) rfl (by decide +kernel) (fl_bo rfl) ?_
  refine fl_Tq.stp (pc' := 163) (lv' := [some (.inr (.inr (.inl (76, 277)))), some (.inl ((f 280 5) - (f 280 14))), some (.inl (0 : Int32)), none]) (st' := []) (m' := (fl_row (r_goMeasure_f17 f ((f 280 2).toInt.toNat)) 280 (upd (upd ((r_goMeasure_f17 f ((f 280 2).toInt.toNat)) 280) 14 (f 280 5)) 9 (r_goMeasure_j144_0 f)), l)) rfl rfl (fl_bo rfl) rfl ?_
  by_cases h2 : (r_goMeasure_j144_0 f).toInt = (f 280 53).toInt
  · have hs163 : ∀ k : Nat, k < (f 280 2).toInt.toNat → fl_Tq (pw_P L xs) 225 163 [some (.inr (.inr (.inl (76, 277)))), some (.inl ((f 280 5) - (f 280 14))), some (.inl (Int32.ofNat (k + 1))), none] [] (r_goMeasure_f163 f (k + 1), l) Q → fl_Tq (pw_P L xs) 225 163 [some (.inr (.inr (.inl (76, 277)))), some (.inl ((f 280 5) - (f 280 14))), some (.inl (Int32.ofNat k)), none] [] (r_goMeasure_f163 f k, l) Q := fun k hkn hS => r_goMeasure_b163_q hkn (by simp only [r_goMeasure_f163_w (k := k) (w := 2) (fun j hj => by omega) (fun j hj => by omega) (fun j hj => by omega) (fun j hj => by omega), fl_row_self, upd_ne (by decide : 2 ≠ 9), upd_ne (by decide : 2 ≠ 14), r_goMeasure_f17_w (k := (f 280 2).toInt.toNat) (w := 2) (fun j hj => by omega) (fun j hj => by omega) (fun j hj => by omega) (fun j hj => by omega)]; exact (t2_nn hn.1)) (by omega) (fun j => by simp only [r_goMeasure_f163_fr (k := k) (p := 279) (by decide : 279 ≠ 280), fl_row_ne (by decide : 279 ≠ 280), r_goMeasure_f17_fr (k := (f 280 2).toInt.toNat) (p := 279) (by decide : 279 ≠ 280)]; exact hr j) (by unfold t2_ck; simp only [r_goMeasure_f163_w (k := k) (w := 444 + 61 * k + 0) (fun j hj => by omega) (fun j hj => by omega) (fun j hj => by omega) (fun j hj => by omega), fl_row_self, upd_ne (by omega : 444 + 61 * k + 0 ≠ 9), upd_ne (by omega : 444 + 61 * k + 0 ≠ 14), r_goMeasure_f17_w (k := (f 280 2).toInt.toNat) (w := 444 + 61 * k + 0) (fun j hj => by omega) (fun j hj => by omega) (fun j hj => by omega) (fun j hj => by omega), r_goMeasure_f163_w (k := k) (w := 444 + 61 * k + 1) (fun j hj => by omega) (fun j hj => by omega) (fun j hj => by omega) (fun j hj => by omega), upd_ne (by omega : 444 + 61 * k + 1 ≠ 9), upd_ne (by omega : 444 + 61 * k + 1 ≠ 14), r_goMeasure_f17_w (k := (f 280 2).toInt.toNat) (w := 444 + 61 * k + 1) (fun j hj => by omega) (fun j hj => by omega) (fun j hj => by omega) (fun j hj => by omega), r_goMeasure_f163_w (k := k) (w := 444 + 61 * k + 16) (fun j hj => by omega) (fun j hj => by omega) (fun j hj => by omega) (fun j hj => by omega), upd_ne (by omega : 444 + 61 * k + 16 ≠ 9), upd_ne (by omega : 444 + 61 * k + 16 ≠ 14), r_goMeasure_f17_w (k := (f 280 2).toInt.toNat) (w := 444 + 61 * k + 16) (fun j hj => by omega) (fun j hj => by omega) (fun j hj => by omega) (fun j hj => by omega)]; exact hk k (by omega)) (by simp only [r_goMeasure_f163_w (k := k) (w := 444 + 61 * k + 0) (fun j hj => by omega) (fun j hj => by omega) (fun j hj => by omega) (fun j hj => by omega), fl_row_self, upd_ne (by omega : 444 + 61 * k + 0 ≠ 9), upd_ne (by omega : 444 + 61 * k + 0 ≠ 14), r_goMeasure_f17_w (k := (f 280 2).toInt.toNat) (w := 444 + 61 * k + 0) (fun j hj => by omega) (fun j hj => by omega) (fun j hj => by omega) (fun j hj => by omega), r_goMeasure_f163_w (k := k) (w := 444 + 61 * k + 1) (fun j hj => by omega) (fun j hj => by omega) (fun j hj => by omega) (fun j hj => by omega), upd_ne (by omega : 444 + 61 * k + 1 ≠ 9), upd_ne (by omega : 444 + 61 * k + 1 ≠ 14), r_goMeasure_f17_w (k := (f 280 2).toInt.toNat) (w := 444 + 61 * k + 1) (fun j hj => by omega) (fun j hj => by omega) (fun j hj => by omega) (fun j hj => by omega), r_goMeasure_f163_w (k := k) (w := 444 + 61 * k + 16) (fun j hj => by omega) (fun j hj => by omega) (fun j hj => by omega) (fun j hj => by omega), upd_ne (by omega : 444 + 61 * k + 16 ≠ 9), upd_ne (by omega : 444 + 61 * k + 16 ≠ 14), r_goMeasure_f17_w (k := (f 280 2).toInt.toNat) (w := 444 + 61 * k + 16) (fun j hj => by omega) (fun j hj => by omega) (fun j hj => by omega) (fun j hj => by omega)]; exact hw k (by omega)) (by simp only [r_goMeasure_f163_w (k := k) (w := 9) (fun j hj => by omega) (fun j hj => by omega) (fun j hj => by omega) (fun j hj => by omega), fl_row_self, upd_self, r_goMeasure_f163_w (k := k) (w := 53) (fun j hj => by omega) (fun j hj => by omega) (fun j hj => by omega) (fun j hj => by omega), upd_ne (by decide : 53 ≠ 9), upd_ne (by decide : 53 ≠ 14), r_goMeasure_f17_w (k := (f 280 2).toInt.toNat) (w := 53) (fun j hj => by omega) (fun j hj => by omega) (fun j hj => by omega) (fun j hj => by omega)]; assumption) hS
    refine t2_for (S := fun k => fl_Tq (pw_P L xs) 225 163 [some (.inr (.inr (.inl (76, 277)))), some (.inl ((f 280 5) - (f 280 14))), some (.inl (Int32.ofNat k)), none] [] (r_goMeasure_f163 f k, l) Q) hs163 ?_
    show fl_Tq (pw_P L xs) 225 163 [some (.inr (.inr (.inl (76, 277)))), some (.inl ((f 280 5) - (f 280 14))), some (.inl (Int32.ofNat ((f 280 2).toInt.toNat))), none] [] (r_goMeasure_f163 f ((f 280 2).toInt.toNat), l) _
    refine fl_Tq.stp (pc' := 164) (lv' := [some (.inr (.inr (.inl (76, 277)))), some (.inl ((f 280 5) - (f 280 14))), some (.inl (Int32.ofNat ((f 280 2).toInt.toNat))), none]) (st' := [.inl (Int32.ofNat ((f 280 2).toInt.toNat))]) (m' := (r_goMeasure_f163 f ((f 280 2).toInt.toNat), l)) rfl rfl (fl_bo rfl) rfl ?_
    refine fl_Tq.stp (pc' := 165) (lv' := [some (.inr (.inr (.inl (76, 277)))), some (.inl ((f 280 5) - (f 280 14))), some (.inl (Int32.ofNat ((f 280 2).toInt.toNat))), none]) (st' := [.inr (.inr (.inl (76, 277))), .inl (Int32.ofNat ((f 280 2).toInt.toNat))]) (m' := (r_goMeasure_f163 f ((f 280 2).toInt.toNat), l)) rfl rfl (fl_bo rfl) rfl ?_
    refine fl_Tq.stp (pc' := 168) (lv' := [some (.inr (.inr (.inl (76, 277)))), some (.inl ((f 280 5) - (f 280 14))), some (.inl (Int32.ofNat ((f 280 2).toInt.toNat))), none]) (st' := [.inr (.inr (.inl (79, 280))), .inl (Int32.ofNat ((f 280 2).toInt.toNat))]) (m' := (r_goMeasure_f163 f ((f 280 2).toInt.toNat), l)) rfl rfl (fl_bo rfl) rfl ?_
    refine fl_Tq.cI (c := (2 : Int32)) rfl (by decide +kernel) (fl_bo rfl) ?_
    refine fl_Tq.ldV (p := 280) (τ := 79) (n := 29780) (z := (0, 0, 0)) (k := 2) (v := f 280 2) rfl (fl_bo rfl) rfl (by decide +kernel) (by decide) (by simp only [r_goMeasure_f163_w (k := (f 280 2).toInt.toNat) (w := 2) (fun j hj => by omega) (fun j hj => by omega) (fun j hj => by omega) (fun j hj => by omega), fl_row_self, upd_ne (by decide : 2 ≠ 9), upd_ne (by decide : 2 ≠ 14), r_goMeasure_f17_w (k := (f 280 2).toInt.toNat) (w := 2) (fun j hj => by omega) (fun j hj => by omega) (fun j hj => by omega) (fun j hj => by omega)]) ?_
    refine fl_Tq.jt rfl (fl_bo rfl) (c2_ge_t (t2_ln (t2_nn hn.1))) rfl ?_
    refine fl_Tq.stp (pc' := 201) (lv' := [some (.inr (.inr (.inl (76, 277)))), some (.inl ((f 280 5) - (f 280 14))), some (.inl (Int32.ofNat ((f 280 2).toInt.toNat))), none]) (st' := [.inr (.inr (.inl (76, 277)))]) (m' := (r_goMeasure_f163 f ((f 280 2).toInt.toNat), l)) rfl rfl (fl_bo rfl) rfl ?_
    refine fl_Tq.cal rfl rfl (fl_bo rfl) rfl ?_
    refine r_isLive_q  ?_
    show fl_Tq _ 225 204 [some (.inr (.inr (.inl (76, 277)))), some (.inl ((f 280 5) - (f 280 14))), some (.inl (Int32.ofNat ((f 280 2).toInt.toNat))), none] [.inl (r_isLive_v (r_goMeasure_f163 f ((f 280 2).toInt.toNat)))] (r_goMeasure_f163 f ((f 280 2).toInt.toNat), l) _
    have hj79 : fl_Tq (pw_P L xs) 225 217 [some (.inr (.inr (.inl (76, 277)))), some (.inl ((f 280 5) - (f 280 14))), some (.inl (Int32.ofNat ((f 280 2).toInt.toNat))), none] [] (fl_row (r_goMeasure_f163 f ((f 280 2).toInt.toNat)) 280 (upd ((r_goMeasure_f163 f ((f 280 2).toInt.toNat)) 280) 4 (r_goMeasure_j204_0 f)), l) Q → fl_Tq (pw_P L xs) 225 204 [some (.inr (.inr (.inl (76, 277)))), some (.inl ((f 280 5) - (f 280 14))), some (.inl (Int32.ofNat ((f 280 2).toInt.toNat))), none] [.inl (r_isLive_v (r_goMeasure_f163 f ((f 280 2).toInt.toNat)))] (r_goMeasure_f163 f ((f 280 2).toInt.toNat), l) Q := by
      intro hJ
      by_cases h3 : (r_isLive_v (r_goMeasure_f163 f ((f 280 2).toInt.toNat))).toInt = 0
      · refine fl_Tq.zt rfl (fl_bo rfl) (c1_eq_t h3) rfl ?_
        have e0 : (fl_row (r_goMeasure_f163 f ((f 280 2).toInt.toNat)) 280 (upd ((r_goMeasure_f163 f ((f 280 2).toInt.toNat)) 280) 4 (r_goMeasure_j204_0 f))) = r_goMeasure_f163 f ((f 280 2).toInt.toNat) := by
          simp only [r_goMeasure_j204_0, if_pos h3]
          funext q j
          simp only [fl_row, upd]
          repeat' split
          all_goals first | rfl | simp_all
        rw [e0] at hJ
        exact hJ
      · refine fl_Tq.zf rfl (fl_bo rfl) (c1_eq_f h3) rfl ?_
        refine fl_Tq.stp (pc' := 208) (lv' := [some (.inr (.inr (.inl (76, 277)))), some (.inl ((f 280 5) - (f 280 14))), some (.inl (Int32.ofNat ((f 280 2).toInt.toNat))), none]) (st' := [.inr (.inr (.inl (76, 277)))]) (m' := (r_goMeasure_f163 f ((f 280 2).toInt.toNat), l)) rfl rfl (fl_bo rfl) rfl ?_
        refine fl_Tq.stp (pc' := 211) (lv' := [some (.inr (.inr (.inl (76, 277)))), some (.inl ((f 280 5) - (f 280 14))), some (.inl (Int32.ofNat ((f 280 2).toInt.toNat))), none]) (st' := [.inr (.inr (.inl (79, 280)))]) (m' := (r_goMeasure_f163 f ((f 280 2).toInt.toNat), l)) rfl rfl (fl_bo rfl) rfl ?_
        refine fl_Tq.cI (c := (4 : Int32)) rfl (by decide +kernel) (fl_bo rfl) ?_
        refine fl_Tq.stp (pc' := 213) (lv' := [some (.inr (.inr (.inl (76, 277)))), some (.inl ((f 280 5) - (f 280 14))), some (.inl (Int32.ofNat ((f 280 2).toInt.toNat))), none]) (st' := [.inr (.inr (.inl (76, 277))), .inl (4 : Int32), .inr (.inr (.inl (79, 280)))]) (m' := (r_goMeasure_f163 f ((f 280 2).toInt.toNat), l)) rfl rfl (fl_bo rfl) rfl ?_
        refine fl_Tq.cal rfl rfl (fl_bo rfl) rfl ?_
        refine r_pack_q (by simp only [r_goMeasure_f163_w (k := (f 280 2).toInt.toNat) (w := 2) (fun j hj => by omega) (fun j hj => by omega) (fun j hj => by omega) (fun j hj => by omega), fl_row_self, upd_ne (by decide : 2 ≠ 9), upd_ne (by decide : 2 ≠ 14), r_goMeasure_f17_w (k := (f 280 2).toInt.toNat) (w := 2) (fun j hj => by omega) (fun j hj => by omega) (fun j hj => by omega) (fun j hj => by omega)]; exact hn) (fun j => by simp only [r_goMeasure_f163_fr (k := (f 280 2).toInt.toNat) (p := 279) (by decide : 279 ≠ 280), fl_row_ne (by decide : 279 ≠ 280), r_goMeasure_f17_fr (k := (f 280 2).toInt.toNat) (p := 279) (by decide : 279 ≠ 280)]; exact hr j) (fun C hC => by simp only [r_goMeasure_f163_w (k := (f 280 2).toInt.toNat) (w := 2) (fun j hj => by omega) (fun j hj => by omega) (fun j hj => by omega) (fun j hj => by omega), fl_row_self, upd_ne (by decide : 2 ≠ 9), upd_ne (by decide : 2 ≠ 14), r_goMeasure_f17_w (k := (f 280 2).toInt.toNat) (w := 2) (fun j hj => by omega) (fun j hj => by omega) (fun j hj => by omega) (fun j hj => by omega), r_goMeasure_f163_w (k := (f 280 2).toInt.toNat) (w := 444 + 61 * C + 0) (fun j hj => by omega) (fun j hj => by omega) (fun j hj => by omega) (fun j hj => by omega), upd_ne (by omega : 444 + 61 * C + 0 ≠ 9), upd_ne (by omega : 444 + 61 * C + 0 ≠ 14), r_goMeasure_f17_w (k := (f 280 2).toInt.toNat) (w := 444 + 61 * C + 0) (fun j hj => by omega) (fun j hj => by omega) (fun j hj => by omega) (fun j hj => by omega), r_goMeasure_f163_w (k := (f 280 2).toInt.toNat) (w := 444 + 61 * C + 1) (fun j hj => by omega) (fun j hj => by omega) (fun j hj => by omega) (fun j hj => by omega), upd_ne (by omega : 444 + 61 * C + 1 ≠ 9), upd_ne (by omega : 444 + 61 * C + 1 ≠ 14), r_goMeasure_f17_w (k := (f 280 2).toInt.toNat) (w := 444 + 61 * C + 1) (fun j hj => by omega) (fun j hj => by omega) (fun j hj => by omega) (fun j hj => by omega)] at hC; unfold t2_ck; simp only [r_goMeasure_f163_w (k := (f 280 2).toInt.toNat) (w := 2) (fun j hj => by omega) (fun j hj => by omega) (fun j hj => by omega) (fun j hj => by omega), fl_row_self, upd_ne (by decide : 2 ≠ 9), upd_ne (by decide : 2 ≠ 14), r_goMeasure_f17_w (k := (f 280 2).toInt.toNat) (w := 2) (fun j hj => by omega) (fun j hj => by omega) (fun j hj => by omega) (fun j hj => by omega), r_goMeasure_f163_w (k := (f 280 2).toInt.toNat) (w := 444 + 61 * C + 0) (fun j hj => by omega) (fun j hj => by omega) (fun j hj => by omega) (fun j hj => by omega), upd_ne (by omega : 444 + 61 * C + 0 ≠ 9), upd_ne (by omega : 444 + 61 * C + 0 ≠ 14), r_goMeasure_f17_w (k := (f 280 2).toInt.toNat) (w := 444 + 61 * C + 0) (fun j hj => by omega) (fun j hj => by omega) (fun j hj => by omega) (fun j hj => by omega), r_goMeasure_f163_w (k := (f 280 2).toInt.toNat) (w := 444 + 61 * C + 1) (fun j hj => by omega) (fun j hj => by omega) (fun j hj => by omega) (fun j hj => by omega), upd_ne (by omega : 444 + 61 * C + 1 ≠ 9), upd_ne (by omega : 444 + 61 * C + 1 ≠ 14), r_goMeasure_f17_w (k := (f 280 2).toInt.toNat) (w := 444 + 61 * C + 1) (fun j hj => by omega) (fun j hj => by omega) (fun j hj => by omega) (fun j hj => by omega)]; exact hk C hC) ?_
        show fl_Tq _ 225 216 [some (.inr (.inr (.inl (76, 277)))), some (.inl ((f 280 5) - (f 280 14))), some (.inl (Int32.ofNat ((f 280 2).toInt.toNat))), none] [.inl (r_pack_v (r_goMeasure_f163 f ((f 280 2).toInt.toNat))), .inl (4 : Int32), .inr (.inr (.inl (79, 280)))] (r_goMeasure_f163 f ((f 280 2).toInt.toNat), l) _
        refine fl_Tq.svV (p := 280) (τ := 79) (n := 29780) (z := (0, 0, 0)) (k := 4) (m' := (fl_row (r_goMeasure_f163 f ((f 280 2).toInt.toNat)) 280 (upd ((r_goMeasure_f163 f ((f 280 2).toInt.toNat)) 280) 4 (r_pack_v (r_goMeasure_f163 f ((f 280 2).toInt.toNat)))), l)) rfl (fl_bo rfl) rfl (by decide +kernel) (by decide) (t2_upn rfl) ?_
        have e0 : (fl_row (r_goMeasure_f163 f ((f 280 2).toInt.toNat)) 280 (upd ((r_goMeasure_f163 f ((f 280 2).toInt.toNat)) 280) 4 (r_goMeasure_j204_0 f))) = fl_row (r_goMeasure_f163 f ((f 280 2).toInt.toNat)) 280 (upd ((r_goMeasure_f163 f ((f 280 2).toInt.toNat)) 280) 4 (r_pack_v (r_goMeasure_f163 f ((f 280 2).toInt.toNat)))) := by
          simp only [r_goMeasure_j204_0, if_neg h3]
        rw [e0] at hJ
        exact hJ
    refine hj79 ?_
    show fl_Tq _ 225 217 [some (.inr (.inr (.inl (76, 277)))), some (.inl ((f 280 5) - (f 280 14))), some (.inl (Int32.ofNat ((f 280 2).toInt.toNat))), none] [] (fl_row (r_goMeasure_f163 f ((f 280 2).toInt.toNat)) 280 (upd ((r_goMeasure_f163 f ((f 280 2).toInt.toNat)) 280) 4 (r_goMeasure_j204_0 f)), l) _
    refine fl_Tq.ret rfl rfl rfl ?_
    unfold r_goMeasure_m at k
    simp only [if_pos h2] at k
    exact k
  · refine fl_Tq.stp (pc' := 164) (lv' := [some (.inr (.inr (.inl (76, 277)))), some (.inl ((f 280 5) - (f 280 14))), some (.inl (0 : Int32)), none]) (st' := [.inl (0 : Int32)]) (m' := (fl_row (r_goMeasure_f17 f ((f 280 2).toInt.toNat)) 280 (upd (upd ((r_goMeasure_f17 f ((f 280 2).toInt.toNat)) 280) 14 (f 280 5)) 9 (r_goMeasure_j144_0 f)), l)) rfl rfl (fl_bo rfl) rfl ?_
    refine fl_Tq.stp (pc' := 165) (lv' := [some (.inr (.inr (.inl (76, 277)))), some (.inl ((f 280 5) - (f 280 14))), some (.inl (0 : Int32)), none]) (st' := [.inr (.inr (.inl (76, 277))), .inl (0 : Int32)]) (m' := (fl_row (r_goMeasure_f17 f ((f 280 2).toInt.toNat)) 280 (upd (upd ((r_goMeasure_f17 f ((f 280 2).toInt.toNat)) 280) 14 (f 280 5)) 9 (r_goMeasure_j144_0 f)), l)) rfl rfl (fl_bo rfl) rfl ?_
    refine fl_Tq.stp (pc' := 168) (lv' := [some (.inr (.inr (.inl (76, 277)))), some (.inl ((f 280 5) - (f 280 14))), some (.inl (0 : Int32)), none]) (st' := [.inr (.inr (.inl (79, 280))), .inl (0 : Int32)]) (m' := (fl_row (r_goMeasure_f17 f ((f 280 2).toInt.toNat)) 280 (upd (upd ((r_goMeasure_f17 f ((f 280 2).toInt.toNat)) 280) 14 (f 280 5)) 9 (r_goMeasure_j144_0 f)), l)) rfl rfl (fl_bo rfl) rfl ?_
    refine fl_Tq.cI (c := (2 : Int32)) rfl (by decide +kernel) (fl_bo rfl) ?_
    refine fl_Tq.ldV (p := 280) (τ := 79) (n := 29780) (z := (0, 0, 0)) (k := 2) (v := f 280 2) rfl (fl_bo rfl) rfl (by decide +kernel) (by decide) (by simp only [fl_row_self, upd_ne (by decide : 2 ≠ 9), upd_ne (by decide : 2 ≠ 14), r_goMeasure_f17_w (k := (f 280 2).toInt.toNat) (w := 2) (fun j hj => by omega) (fun j hj => by omega) (fun j hj => by omega) (fun j hj => by omega)]) ?_
    have hj80 : fl_Tq (pw_P L xs) 225 200 [some (.inr (.inr (.inl (76, 277)))), some (.inl ((f 280 5) - (f 280 14))), some (.inl (0 : Int32)), none] [] (fl_row (r_goMeasure_f17 f ((f 280 2).toInt.toNat)) 280 (upd (upd ((r_goMeasure_f17 f ((f 280 2).toInt.toNat)) 280) 14 (f 280 5)) 9 (r_goMeasure_j144_0 f)), l) Q → fl_Tq (pw_P L xs) 225 170 [some (.inr (.inr (.inl (76, 277)))), some (.inl ((f 280 5) - (f 280 14))), some (.inl (0 : Int32)), none] [.inl (f 280 2), .inl (0 : Int32)] (fl_row (r_goMeasure_f17 f ((f 280 2).toInt.toNat)) 280 (upd (upd ((r_goMeasure_f17 f ((f 280 2).toInt.toNat)) 280) 14 (f 280 5)) 9 (r_goMeasure_j144_0 f)), l) Q := by
      intro hJ
      by_cases h4 : (0 : Int32).toInt < (f 280 2).toInt
      · refine fl_Tq.jf rfl (fl_bo rfl) (c2_ge_f h4) rfl ?_
        refine fl_Tq.stp (pc' := 174) (lv' := [some (.inr (.inr (.inl (76, 277)))), some (.inl ((f 280 5) - (f 280 14))), some (.inl (0 : Int32)), none]) (st' := [.inr (.inr (.inl (76, 277)))]) (m' := (fl_row (r_goMeasure_f17 f ((f 280 2).toInt.toNat)) 280 (upd (upd ((r_goMeasure_f17 f ((f 280 2).toInt.toNat)) 280) 14 (f 280 5)) 9 (r_goMeasure_j144_0 f)), l)) rfl rfl (fl_bo rfl) rfl ?_
        refine fl_Tq.stp (pc' := 177) (lv' := [some (.inr (.inr (.inl (76, 277)))), some (.inl ((f 280 5) - (f 280 14))), some (.inl (0 : Int32)), none]) (st' := [.inr (.inr (.inl (79, 280)))]) (m' := (fl_row (r_goMeasure_f17 f ((f 280 2).toInt.toNat)) 280 (upd (upd ((r_goMeasure_f17 f ((f 280 2).toInt.toNat)) 280) 14 (f 280 5)) 9 (r_goMeasure_j144_0 f)), l)) rfl rfl (fl_bo rfl) rfl ?_
        refine fl_Tq.cB (c := (9 : Int32)) rfl (by decide +kernel) (fl_bo rfl) ?_
        refine fl_Tq.ldV (p := 280) (τ := 79) (n := 29780) (z := (0, 0, 0)) (k := 9) (v := r_goMeasure_j144_0 f) rfl (fl_bo rfl) rfl (by decide +kernel) (by decide) (by simp only [fl_row_self, upd_self]) ?_
        refine fl_Tq.stp (pc' := 181) (lv' := [some (.inr (.inr (.inl (76, 277)))), some (.inl ((f 280 5) - (f 280 14))), some (.inl (0 : Int32)), none]) (st' := [.inr (.inr (.inl (76, 277))), .inl (r_goMeasure_j144_0 f)]) (m' := (fl_row (r_goMeasure_f17 f ((f 280 2).toInt.toNat)) 280 (upd (upd ((r_goMeasure_f17 f ((f 280 2).toInt.toNat)) 280) 14 (f 280 5)) 9 (r_goMeasure_j144_0 f)), l)) rfl rfl (fl_bo rfl) rfl ?_
        refine fl_Tq.cB (c := (19 : Int32)) rfl (by decide +kernel) (fl_bo rfl) ?_
        refine fl_Tq.cal rfl rfl (fl_bo rfl) rfl ?_
        refine t2_its (W := 19) (v := f 280 53) (by decide +kernel) (by decide) (by simp only [fl_row_self, upd_ne (by decide : 53 ≠ 9), upd_ne (by decide : 53 ≠ 14), r_goMeasure_f17_w (k := (f 280 2).toInt.toNat) (w := 53) (fun j hj => by omega) (fun j hj => by omega) (fun j hj => by omega) (fun j hj => by omega)]) ?_
        show fl_Tq _ 225 186 [some (.inr (.inr (.inl (76, 277)))), some (.inl ((f 280 5) - (f 280 14))), some (.inl (0 : Int32)), none] [.inl (f 280 53), .inl (r_goMeasure_j144_0 f)] (fl_row (r_goMeasure_f17 f ((f 280 2).toInt.toNat)) 280 (upd (upd ((r_goMeasure_f17 f ((f 280 2).toInt.toNat)) 280) 14 (f 280 5)) 9 (r_goMeasure_j144_0 f)), l) _
        refine fl_Tq.jt rfl (fl_bo rfl) (c2_ne_t h2) rfl ?_
        exact hJ
      · refine fl_Tq.jt rfl (fl_bo rfl) (c2_ge_t h4) rfl ?_
        exact hJ
    refine hj80 ?_
    show fl_Tq _ 225 200 [some (.inr (.inr (.inl (76, 277)))), some (.inl ((f 280 5) - (f 280 14))), some (.inl (0 : Int32)), none] [] (fl_row (r_goMeasure_f17 f ((f 280 2).toInt.toNat)) 280 (upd (upd ((r_goMeasure_f17 f ((f 280 2).toInt.toNat)) 280) 14 (f 280 5)) 9 (r_goMeasure_j144_0 f)), l) _
    refine fl_Tq.stp (pc' := 201) (lv' := [some (.inr (.inr (.inl (76, 277)))), some (.inl ((f 280 5) - (f 280 14))), some (.inl (0 : Int32)), none]) (st' := [.inr (.inr (.inl (76, 277)))]) (m' := (fl_row (r_goMeasure_f17 f ((f 280 2).toInt.toNat)) 280 (upd (upd ((r_goMeasure_f17 f ((f 280 2).toInt.toNat)) 280) 14 (f 280 5)) 9 (r_goMeasure_j144_0 f)), l)) rfl rfl (fl_bo rfl) rfl ?_
    refine fl_Tq.cal rfl rfl (fl_bo rfl) rfl ?_
    refine r_isLive_q  ?_
    show fl_Tq _ 225 204 [some (.inr (.inr (.inl (76, 277)))), some (.inl ((f 280 5) - (f 280 14))), some (.inl (0 : Int32)), none] [.inl (r_isLive_v (fl_row (r_goMeasure_f17 f ((f 280 2).toInt.toNat)) 280 (upd (upd ((r_goMeasure_f17 f ((f 280 2).toInt.toNat)) 280) 14 (f 280 5)) 9 (r_goMeasure_j144_0 f))))] (fl_row (r_goMeasure_f17 f ((f 280 2).toInt.toNat)) 280 (upd (upd ((r_goMeasure_f17 f ((f 280 2).toInt.toNat)) 280) 14 (f 280 5)) 9 (r_goMeasure_j144_0 f)), l) _
    have hj81 : fl_Tq (pw_P L xs) 225 217 [some (.inr (.inr (.inl (76, 277)))), some (.inl ((f 280 5) - (f 280 14))), some (.inl (0 : Int32)), none] [] (fl_row (r_goMeasure_f17 f ((f 280 2).toInt.toNat)) 280 (upd (upd (upd ((r_goMeasure_f17 f ((f 280 2).toInt.toNat)) 280) 14 (f 280 5)) 9 (r_goMeasure_j144_0 f)) 4 (r_goMeasure_j204_1 f)), l) Q → fl_Tq (pw_P L xs) 225 204 [some (.inr (.inr (.inl (76, 277)))), some (.inl ((f 280 5) - (f 280 14))), some (.inl (0 : Int32)), none] [.inl (r_isLive_v (fl_row (r_goMeasure_f17 f ((f 280 2).toInt.toNat)) 280 (upd (upd ((r_goMeasure_f17 f ((f 280 2).toInt.toNat)) 280) 14 (f 280 5)) 9 (r_goMeasure_j144_0 f))))] (fl_row (r_goMeasure_f17 f ((f 280 2).toInt.toNat)) 280 (upd (upd ((r_goMeasure_f17 f ((f 280 2).toInt.toNat)) 280) 14 (f 280 5)) 9 (r_goMeasure_j144_0 f)), l) Q := by
      intro hJ
      by_cases h5 : (r_isLive_v (fl_row (r_goMeasure_f17 f ((f 280 2).toInt.toNat)) 280 (upd (upd ((r_goMeasure_f17 f ((f 280 2).toInt.toNat)) 280) 14 (f 280 5)) 9 (r_goMeasure_j144_0 f)))).toInt = 0
      · refine fl_Tq.zt rfl (fl_bo rfl) (c1_eq_t h5) rfl ?_
        have e0 : (fl_row (r_goMeasure_f17 f ((f 280 2).toInt.toNat)) 280 (upd (upd (upd ((r_goMeasure_f17 f ((f 280 2).toInt.toNat)) 280) 14 (f 280 5)) 9 (r_goMeasure_j144_0 f)) 4 (r_goMeasure_j204_1 f))) = fl_row (r_goMeasure_f17 f ((f 280 2).toInt.toNat)) 280 (upd (upd ((r_goMeasure_f17 f ((f 280 2).toInt.toNat)) 280) 14 (f 280 5)) 9 (r_goMeasure_j144_0 f)) := by
          simp only [r_goMeasure_j204_1, if_pos h5]
          funext q j
          simp only [fl_row, upd]
          repeat' split
          all_goals first | rfl | simp_all
        rw [e0] at hJ
        exact hJ
      · refine fl_Tq.zf rfl (fl_bo rfl) (c1_eq_f h5) rfl ?_
        refine fl_Tq.stp (pc' := 208) (lv' := [some (.inr (.inr (.inl (76, 277)))), some (.inl ((f 280 5) - (f 280 14))), some (.inl (0 : Int32)), none]) (st' := [.inr (.inr (.inl (76, 277)))]) (m' := (fl_row (r_goMeasure_f17 f ((f 280 2).toInt.toNat)) 280 (upd (upd ((r_goMeasure_f17 f ((f 280 2).toInt.toNat)) 280) 14 (f 280 5)) 9 (r_goMeasure_j144_0 f)), l)) rfl rfl (fl_bo rfl) rfl ?_
        refine fl_Tq.stp (pc' := 211) (lv' := [some (.inr (.inr (.inl (76, 277)))), some (.inl ((f 280 5) - (f 280 14))), some (.inl (0 : Int32)), none]) (st' := [.inr (.inr (.inl (79, 280)))]) (m' := (fl_row (r_goMeasure_f17 f ((f 280 2).toInt.toNat)) 280 (upd (upd ((r_goMeasure_f17 f ((f 280 2).toInt.toNat)) 280) 14 (f 280 5)) 9 (r_goMeasure_j144_0 f)), l)) rfl rfl (fl_bo rfl) rfl ?_
        refine fl_Tq.cI (c := (4 : Int32)) rfl (by decide +kernel) (fl_bo rfl) ?_
        refine fl_Tq.stp (pc' := 213) (lv' := [some (.inr (.inr (.inl (76, 277)))), some (.inl ((f 280 5) - (f 280 14))), some (.inl (0 : Int32)), none]) (st' := [.inr (.inr (.inl (76, 277))), .inl (4 : Int32), .inr (.inr (.inl (79, 280)))]) (m' := (fl_row (r_goMeasure_f17 f ((f 280 2).toInt.toNat)) 280 (upd (upd ((r_goMeasure_f17 f ((f 280 2).toInt.toNat)) 280) 14 (f 280 5)) 9 (r_goMeasure_j144_0 f)), l)) rfl rfl (fl_bo rfl) rfl ?_
        refine fl_Tq.cal rfl rfl (fl_bo rfl) rfl ?_
        refine r_pack_q (by simp only [fl_row_self, upd_ne (by decide : 2 ≠ 9), upd_ne (by decide : 2 ≠ 14), r_goMeasure_f17_w (k := (f 280 2).toInt.toNat) (w := 2) (fun j hj => by omega) (fun j hj => by omega) (fun j hj => by omega) (fun j hj => by omega)]; exact hn) (fun j => by simp only [fl_row_ne (by decide : 279 ≠ 280), r_goMeasure_f17_fr (k := (f 280 2).toInt.toNat) (p := 279) (by decide : 279 ≠ 280)]; exact hr j) (fun C hC => by simp only [fl_row_self, upd_ne (by decide : 2 ≠ 9), upd_ne (by decide : 2 ≠ 14), r_goMeasure_f17_w (k := (f 280 2).toInt.toNat) (w := 2) (fun j hj => by omega) (fun j hj => by omega) (fun j hj => by omega) (fun j hj => by omega), upd_ne (by omega : 444 + 61 * C + 0 ≠ 9), upd_ne (by omega : 444 + 61 * C + 0 ≠ 14), r_goMeasure_f17_w (k := (f 280 2).toInt.toNat) (w := 444 + 61 * C + 0) (fun j hj => by omega) (fun j hj => by omega) (fun j hj => by omega) (fun j hj => by omega), upd_ne (by omega : 444 + 61 * C + 1 ≠ 9), upd_ne (by omega : 444 + 61 * C + 1 ≠ 14), r_goMeasure_f17_w (k := (f 280 2).toInt.toNat) (w := 444 + 61 * C + 1) (fun j hj => by omega) (fun j hj => by omega) (fun j hj => by omega) (fun j hj => by omega)] at hC; unfold t2_ck; simp only [fl_row_self, upd_ne (by decide : 2 ≠ 9), upd_ne (by decide : 2 ≠ 14), r_goMeasure_f17_w (k := (f 280 2).toInt.toNat) (w := 2) (fun j hj => by omega) (fun j hj => by omega) (fun j hj => by omega) (fun j hj => by omega), upd_ne (by omega : 444 + 61 * C + 0 ≠ 9), upd_ne (by omega : 444 + 61 * C + 0 ≠ 14), r_goMeasure_f17_w (k := (f 280 2).toInt.toNat) (w := 444 + 61 * C + 0) (fun j hj => by omega) (fun j hj => by omega) (fun j hj => by omega) (fun j hj => by omega), upd_ne (by omega : 444 + 61 * C + 1 ≠ 9), upd_ne (by omega : 444 + 61 * C + 1 ≠ 14), r_goMeasure_f17_w (k := (f 280 2).toInt.toNat) (w := 444 + 61 * C + 1) (fun j hj => by omega) (fun j hj => by omega) (fun j hj => by omega) (fun j hj => by omega)]; exact hk C hC) ?_
        show fl_Tq _ 225 216 [some (.inr (.inr (.inl (76, 277)))), some (.inl ((f 280 5) - (f 280 14))), some (.inl (0 : Int32)), none] [.inl (r_pack_v (fl_row (r_goMeasure_f17 f ((f 280 2).toInt.toNat)) 280 (upd (upd ((r_goMeasure_f17 f ((f 280 2).toInt.toNat)) 280) 14 (f 280 5)) 9 (r_goMeasure_j144_0 f)))), .inl (4 : Int32), .inr (.inr (.inl (79, 280)))] (fl_row (r_goMeasure_f17 f ((f 280 2).toInt.toNat)) 280 (upd (upd ((r_goMeasure_f17 f ((f 280 2).toInt.toNat)) 280) 14 (f 280 5)) 9 (r_goMeasure_j144_0 f)), l) _
        refine fl_Tq.svV (p := 280) (τ := 79) (n := 29780) (z := (0, 0, 0)) (k := 4) (m' := (fl_row (r_goMeasure_f17 f ((f 280 2).toInt.toNat)) 280 (upd (upd (upd ((r_goMeasure_f17 f ((f 280 2).toInt.toNat)) 280) 14 (f 280 5)) 9 (r_goMeasure_j144_0 f)) 4 (r_pack_v (fl_row (r_goMeasure_f17 f ((f 280 2).toInt.toNat)) 280 (upd (upd ((r_goMeasure_f17 f ((f 280 2).toInt.toNat)) 280) 14 (f 280 5)) 9 (r_goMeasure_j144_0 f))))), l)) rfl (fl_bo rfl) rfl (by decide +kernel) (by decide) (t2_upr) ?_
        have e0 : (fl_row (r_goMeasure_f17 f ((f 280 2).toInt.toNat)) 280 (upd (upd (upd ((r_goMeasure_f17 f ((f 280 2).toInt.toNat)) 280) 14 (f 280 5)) 9 (r_goMeasure_j144_0 f)) 4 (r_goMeasure_j204_1 f))) = fl_row (r_goMeasure_f17 f ((f 280 2).toInt.toNat)) 280 (upd (upd (upd ((r_goMeasure_f17 f ((f 280 2).toInt.toNat)) 280) 14 (f 280 5)) 9 (r_goMeasure_j144_0 f)) 4 (r_pack_v (fl_row (r_goMeasure_f17 f ((f 280 2).toInt.toNat)) 280 (upd (upd ((r_goMeasure_f17 f ((f 280 2).toInt.toNat)) 280) 14 (f 280 5)) 9 (r_goMeasure_j144_0 f))))) := by
          simp only [r_goMeasure_j204_1, if_neg h5]
        rw [e0] at hJ
        exact hJ
    refine hj81 ?_
    show fl_Tq _ 225 217 [some (.inr (.inr (.inl (76, 277)))), some (.inl ((f 280 5) - (f 280 14))), some (.inl (0 : Int32)), none] [] (fl_row (r_goMeasure_f17 f ((f 280 2).toInt.toNat)) 280 (upd (upd (upd ((r_goMeasure_f17 f ((f 280 2).toInt.toNat)) 280) 14 (f 280 5)) 9 (r_goMeasure_j144_0 f)) 4 (r_goMeasure_j204_1 f)), l) _
    refine fl_Tq.ret rfl rfl rfl ?_
    unfold r_goMeasure_m at k
    simp only [if_neg h2] at k
    exact k
noncomputable def r_spreadOf_a4 (f : t2_F) : Nat → Int32
  | 0 => (0 : Int32)
  | k4 + 1 => if (r_spreadOf_a4 f k4).toInt < (r_partOf_v f (Int32.ofNat k4) k4).toInt then r_partOf_v f (Int32.ofNat k4) k4 else r_spreadOf_a4 f k4
noncomputable def r_spreadOf_j45_0 (f : t2_F)  : Int32 := if (f 280 2).toInt = 0 then (0 : Int32) else (r_spreadOf_a4 f ((f 280 2).toInt.toNat)) - (r_leastPart_v f)
noncomputable def r_spreadOf_v (f : t2_F) : Int32 := r_spreadOf_j45_0 f
theorem r_spreadOf_q {L : Nat} {xs : Nat → Int32} {f : t2_F} {l : t2_L} {Q : Option fl_V → fl_M → Prop}  (hn : 0 ≤ (f 280 2).toInt ∧ (f 280 2).toInt ≤ 16) (hk : ∀ C : Nat, (C : Int) < (f 280 2).toInt → t2_ck f C) (k : Q (some (.inl (r_spreadOf_v f))) (f, l)) : fl_Tq (pw_P L xs) 205 0 (fl_args (am_mxl (pw_P L xs) 205) [.inr (.inr (.inl (76, 277)))]) [] (f, l) Q := by
  refine fl_Tq.cI (c := (0 : Int32)) rfl (by decide +kernel) (fl_bo rfl) ?_
  refine fl_Tq.stp (pc' := 2) (lv' := [some (.inr (.inr (.inl (76, 277)))), some (.inl (0 : Int32)), none]) (st' := []) (m' := (f, l)) rfl rfl (fl_bo rfl) rfl ?_
  refine fl_Tq.cI (c := (0 : Int32)) rfl (by decide +kernel) (fl_bo rfl) ?_
  refine fl_Tq.stp (pc' := 4) (lv' := [some (.inr (.inr (.inl (76, 277)))), some (.inl (0 : Int32)), some (.inl (0 : Int32))]) (st' := []) (m' := (f, l)) rfl rfl (fl_bo rfl) rfl ?_
  have hs4 : ∀ k4 : Nat, k4 < (f 280 2).toInt.toNat → fl_Tq (pw_P L xs) 205 4 [some (.inr (.inr (.inl (76, 277)))), some (.inl (r_spreadOf_a4 f (k4 + 1))), some (.inl (Int32.ofNat (k4 + 1)))] [] (f, l) Q → fl_Tq (pw_P L xs) 205 4 [some (.inr (.inr (.inl (76, 277)))), some (.inl (r_spreadOf_a4 f k4)), some (.inl (Int32.ofNat k4))] [] (f, l) Q := by
    intro k4 hk4 hS
    refine fl_Tq.stp (pc' := 5) (lv' := [some (.inr (.inr (.inl (76, 277)))), some (.inl (r_spreadOf_a4 f k4)), some (.inl (Int32.ofNat k4))]) (st' := [.inl (Int32.ofNat k4)]) (m' := (f, l)) rfl rfl (fl_bo rfl) rfl ?_
    refine fl_Tq.stp (pc' := 6) (lv' := [some (.inr (.inr (.inl (76, 277)))), some (.inl (r_spreadOf_a4 f k4)), some (.inl (Int32.ofNat k4))]) (st' := [.inr (.inr (.inl (76, 277))), .inl (Int32.ofNat k4)]) (m' := (f, l)) rfl rfl (fl_bo rfl) rfl ?_
    refine fl_Tq.stp (pc' := 9) (lv' := [some (.inr (.inr (.inl (76, 277)))), some (.inl (r_spreadOf_a4 f k4)), some (.inl (Int32.ofNat k4))]) (st' := [.inr (.inr (.inl (79, 280))), .inl (Int32.ofNat k4)]) (m' := (f, l)) rfl rfl (fl_bo rfl) rfl ?_
    refine fl_Tq.cI (c := (2 : Int32)) rfl (by decide +kernel) (fl_bo rfl) ?_
    refine fl_Tq.ldV (p := 280) (τ := 79) (n := 29780) (z := (0, 0, 0)) (k := 2) (v := f 280 2) rfl (fl_bo rfl) rfl (by decide +kernel) (by decide) rfl ?_
    refine fl_Tq.jf rfl (fl_bo rfl) (c2_ge_f (t2_lk hk4 (t2_nn hn.1))) rfl ?_
    refine fl_Tq.stp (pc' := 15) (lv' := [some (.inr (.inr (.inl (76, 277)))), some (.inl (r_spreadOf_a4 f k4)), some (.inl (Int32.ofNat k4))]) (st' := [.inr (.inr (.inl (76, 277)))]) (m' := (f, l)) rfl rfl (fl_bo rfl) rfl ?_
    refine fl_Tq.stp (pc' := 16) (lv' := [some (.inr (.inr (.inl (76, 277)))), some (.inl (r_spreadOf_a4 f k4)), some (.inl (Int32.ofNat k4))]) (st' := [.inl (Int32.ofNat k4), .inr (.inr (.inl (76, 277)))]) (m' := (f, l)) rfl rfl (fl_bo rfl) rfl ?_
    refine fl_Tq.cal rfl rfl (fl_bo rfl) rfl ?_
    refine r_partOf_q (at_ofN (by omega)) (by omega) (hk k4 (by omega)) ?_
    show fl_Tq _ 205 19 [some (.inr (.inr (.inl (76, 277)))), some (.inl (r_spreadOf_a4 f k4)), some (.inl (Int32.ofNat k4))] [.inl (r_partOf_v f (Int32.ofNat k4) k4)] (f, l) _
    refine fl_Tq.stp (pc' := 20) (lv' := [some (.inr (.inr (.inl (76, 277)))), some (.inl (r_spreadOf_a4 f k4)), some (.inl (Int32.ofNat k4))]) (st' := [.inl (r_spreadOf_a4 f k4), .inl (r_partOf_v f (Int32.ofNat k4) k4)]) (m' := (f, l)) rfl rfl (fl_bo rfl) rfl ?_
    have hj82 : fl_Tq (pw_P L xs) 205 32 [some (.inr (.inr (.inl (76, 277)))), some (.inl (r_spreadOf_a4 f k4)), some (.inl (Int32.ofNat k4))] [.inl (if (r_spreadOf_a4 f k4).toInt < (r_partOf_v f (Int32.ofNat k4) k4).toInt then r_partOf_v f (Int32.ofNat k4) k4 else r_spreadOf_a4 f k4)] (f, l) Q → fl_Tq (pw_P L xs) 205 20 [some (.inr (.inr (.inl (76, 277)))), some (.inl (r_spreadOf_a4 f k4)), some (.inl (Int32.ofNat k4))] [.inl (r_spreadOf_a4 f k4), .inl (r_partOf_v f (Int32.ofNat k4) k4)] (f, l) Q := by
      intro hJ
      by_cases h1 : (r_spreadOf_a4 f k4).toInt < (r_partOf_v f (Int32.ofNat k4) k4).toInt
      · refine fl_Tq.jf rfl (fl_bo rfl) (c2_le_f h1) rfl ?_
        refine fl_Tq.stp (pc' := 24) (lv' := [some (.inr (.inr (.inl (76, 277)))), some (.inl (r_spreadOf_a4 f k4)), some (.inl (Int32.ofNat k4))]) (st' := [.inr (.inr (.inl (76, 277)))]) (m' := (f, l)) rfl rfl (fl_bo rfl) rfl ?_
        refine fl_Tq.stp (pc' := 25) (lv' := [some (.inr (.inr (.inl (76, 277)))), some (.inl (r_spreadOf_a4 f k4)), some (.inl (Int32.ofNat k4))]) (st' := [.inl (Int32.ofNat k4), .inr (.inr (.inl (76, 277)))]) (m' := (f, l)) rfl rfl (fl_bo rfl) rfl ?_
        refine fl_Tq.cal rfl rfl (fl_bo rfl) rfl ?_
        refine r_partOf_q (at_ofN (by omega)) (by omega) (hk k4 (by omega)) ?_
        show fl_Tq _ 205 28 [some (.inr (.inr (.inl (76, 277)))), some (.inl (r_spreadOf_a4 f k4)), some (.inl (Int32.ofNat k4))] [.inl (r_partOf_v f (Int32.ofNat k4) k4)] (f, l) _
        refine fl_Tq.stp (pc' := 32) (lv' := [some (.inr (.inr (.inl (76, 277)))), some (.inl (r_spreadOf_a4 f k4)), some (.inl (Int32.ofNat k4))]) (st' := [.inl (r_partOf_v f (Int32.ofNat k4) k4)]) (m' := (f, l)) rfl rfl (fl_bo rfl) rfl ?_
        have e0 : (if (r_spreadOf_a4 f k4).toInt < (r_partOf_v f (Int32.ofNat k4) k4).toInt then r_partOf_v f (Int32.ofNat k4) k4 else r_spreadOf_a4 f k4) = r_partOf_v f (Int32.ofNat k4) k4 := by simp only [if_pos h1]
        rw [e0] at hJ
        exact hJ
      · refine fl_Tq.jt rfl (fl_bo rfl) (c2_le_t h1) rfl ?_
        refine fl_Tq.stp (pc' := 32) (lv' := [some (.inr (.inr (.inl (76, 277)))), some (.inl (r_spreadOf_a4 f k4)), some (.inl (Int32.ofNat k4))]) (st' := [.inl (r_spreadOf_a4 f k4)]) (m' := (f, l)) rfl rfl (fl_bo rfl) rfl ?_
        have e0 : (if (r_spreadOf_a4 f k4).toInt < (r_partOf_v f (Int32.ofNat k4) k4).toInt then r_partOf_v f (Int32.ofNat k4) k4 else r_spreadOf_a4 f k4) = r_spreadOf_a4 f k4 := by simp only [if_neg h1]
        rw [e0] at hJ
        exact hJ
    refine hj82 ?_
    show fl_Tq _ 205 32 [some (.inr (.inr (.inl (76, 277)))), some (.inl (r_spreadOf_a4 f k4)), some (.inl (Int32.ofNat k4))] [.inl (if (r_spreadOf_a4 f k4).toInt < (r_partOf_v f (Int32.ofNat k4) k4).toInt then r_partOf_v f (Int32.ofNat k4) k4 else r_spreadOf_a4 f k4)] (f, l) _
    refine fl_Tq.stp (pc' := 33) (lv' := [some (.inr (.inr (.inl (76, 277)))), some (.inl (if (r_spreadOf_a4 f k4).toInt < (r_partOf_v f (Int32.ofNat k4) k4).toInt then r_partOf_v f (Int32.ofNat k4) k4 else r_spreadOf_a4 f k4)), some (.inl (Int32.ofNat k4))]) (st' := []) (m' := (f, l)) rfl rfl (fl_bo rfl) rfl ?_
    refine fl_Tq.stp (pc' := 36) (lv' := [some (.inr (.inr (.inl (76, 277)))), some (.inl (if (r_spreadOf_a4 f k4).toInt < (r_partOf_v f (Int32.ofNat k4) k4).toInt then r_partOf_v f (Int32.ofNat k4) k4 else r_spreadOf_a4 f k4)), some (.inl ((Int32.ofNat k4) + (1 : Int32)))]) (st' := []) (m' := (f, l)) rfl rfl (fl_bo rfl) rfl ?_
    refine fl_Tq.stp (pc' := 4) (lv' := [some (.inr (.inr (.inl (76, 277)))), some (.inl (if (r_spreadOf_a4 f k4).toInt < (r_partOf_v f (Int32.ofNat k4) k4).toInt then r_partOf_v f (Int32.ofNat k4) k4 else r_spreadOf_a4 f k4)), some (.inl ((Int32.ofNat k4) + (1 : Int32)))]) (st' := []) (m' := (f, l)) rfl rfl (fl_bo rfl) rfl ?_
    have ea : r_spreadOf_a4 f (k4 + 1) = if (r_spreadOf_a4 f k4).toInt < (r_partOf_v f (Int32.ofNat k4) k4).toInt then r_partOf_v f (Int32.ofNat k4) k4 else r_spreadOf_a4 f k4 := by
      show (if (r_spreadOf_a4 f k4).toInt < (r_partOf_v f (Int32.ofNat k4) k4).toInt then r_partOf_v f (Int32.ofNat k4) k4 else r_spreadOf_a4 f k4) = _
      rfl
    rw [ea, ← t2_k1] at hS
    exact hS
  refine t2_for (S := fun k4 => fl_Tq (pw_P L xs) 205 4 [some (.inr (.inr (.inl (76, 277)))), some (.inl (r_spreadOf_a4 f k4)), some (.inl (Int32.ofNat k4))] [] (f, l) Q) hs4 ?_
  show fl_Tq (pw_P L xs) 205 4 [some (.inr (.inr (.inl (76, 277)))), some (.inl (r_spreadOf_a4 f ((f 280 2).toInt.toNat))), some (.inl (Int32.ofNat ((f 280 2).toInt.toNat)))] [] (f, l) _
  refine fl_Tq.stp (pc' := 5) (lv' := [some (.inr (.inr (.inl (76, 277)))), some (.inl (r_spreadOf_a4 f ((f 280 2).toInt.toNat))), some (.inl (Int32.ofNat ((f 280 2).toInt.toNat)))]) (st' := [.inl (Int32.ofNat ((f 280 2).toInt.toNat))]) (m' := (f, l)) rfl rfl (fl_bo rfl) rfl ?_
  refine fl_Tq.stp (pc' := 6) (lv' := [some (.inr (.inr (.inl (76, 277)))), some (.inl (r_spreadOf_a4 f ((f 280 2).toInt.toNat))), some (.inl (Int32.ofNat ((f 280 2).toInt.toNat)))]) (st' := [.inr (.inr (.inl (76, 277))), .inl (Int32.ofNat ((f 280 2).toInt.toNat))]) (m' := (f, l)) rfl rfl (fl_bo rfl) rfl ?_
  refine fl_Tq.stp (pc' := 9) (lv' := [some (.inr (.inr (.inl (76, 277)))), some (.inl (r_spreadOf_a4 f ((f 280 2).toInt.toNat))), some (.inl (Int32.ofNat ((f 280 2).toInt.toNat)))]) (st' := [.inr (.inr (.inl (79, 280))), .inl (Int32.ofNat ((f 280 2).toInt.toNat))]) (m' := (f, l)) rfl rfl (fl_bo rfl) rfl ?_
  refine fl_Tq.cI (c := (2 : Int32)) rfl (by decide +kernel) (fl_bo rfl) ?_
  refine fl_Tq.ldV (p := 280) (τ := 79) (n := 29780) (z := (0, 0, 0)) (k := 2) (v := f 280 2) rfl (fl_bo rfl) rfl (by decide +kernel) (by decide) rfl ?_
  refine fl_Tq.jt rfl (fl_bo rfl) (c2_ge_t (t2_ln (t2_nn hn.1))) rfl ?_
  refine fl_Tq.stp (pc' := 40) (lv' := [some (.inr (.inr (.inl (76, 277)))), some (.inl (r_spreadOf_a4 f ((f 280 2).toInt.toNat))), some (.inl (Int32.ofNat ((f 280 2).toInt.toNat)))]) (st' := [.inr (.inr (.inl (76, 277)))]) (m' := (f, l)) rfl rfl (fl_bo rfl) rfl ?_
  refine fl_Tq.stp (pc' := 43) (lv' := [some (.inr (.inr (.inl (76, 277)))), some (.inl (r_spreadOf_a4 f ((f 280 2).toInt.toNat))), some (.inl (Int32.ofNat ((f 280 2).toInt.toNat)))]) (st' := [.inr (.inr (.inl (79, 280)))]) (m' := (f, l)) rfl rfl (fl_bo rfl) rfl ?_
  refine fl_Tq.cI (c := (2 : Int32)) rfl (by decide +kernel) (fl_bo rfl) ?_
  refine fl_Tq.ldV (p := 280) (τ := 79) (n := 29780) (z := (0, 0, 0)) (k := 2) (v := f 280 2) rfl (fl_bo rfl) rfl (by decide +kernel) (by decide) rfl ?_
  have hj83 : fl_Tq (pw_P L xs) 205 58 [some (.inr (.inr (.inl (76, 277)))), some (.inl (r_spreadOf_a4 f ((f 280 2).toInt.toNat))), some (.inl (Int32.ofNat ((f 280 2).toInt.toNat)))] [.inl (r_spreadOf_j45_0 f)] (f, l) Q → fl_Tq (pw_P L xs) 205 45 [some (.inr (.inr (.inl (76, 277)))), some (.inl (r_spreadOf_a4 f ((f 280 2).toInt.toNat))), some (.inl (Int32.ofNat ((f 280 2).toInt.toNat)))] [.inl (f 280 2)] (f, l) Q := by
    intro hJ
    by_cases h2 : (f 280 2).toInt = 0
    · refine fl_Tq.zf rfl (fl_bo rfl) (c1_ne_f h2) rfl ?_
      refine fl_Tq.cI (c := (0 : Int32)) rfl (by decide +kernel) (fl_bo rfl) ?_
      refine fl_Tq.stp (pc' := 58) (lv' := [some (.inr (.inr (.inl (76, 277)))), some (.inl (r_spreadOf_a4 f ((f 280 2).toInt.toNat))), some (.inl (Int32.ofNat ((f 280 2).toInt.toNat)))]) (st' := [.inl (0 : Int32)]) (m' := (f, l)) rfl rfl (fl_bo rfl) rfl ?_
      have e0 : (r_spreadOf_j45_0 f) = (0 : Int32) := by simp only [r_spreadOf_j45_0, if_pos h2]
      rw [e0] at hJ
      exact hJ
    · refine fl_Tq.zt rfl (fl_bo rfl) (c1_ne_t h2) rfl ?_
      refine fl_Tq.stp (pc' := 53) (lv' := [some (.inr (.inr (.inl (76, 277)))), some (.inl (r_spreadOf_a4 f ((f 280 2).toInt.toNat))), some (.inl (Int32.ofNat ((f 280 2).toInt.toNat)))]) (st' := [.inl (r_spreadOf_a4 f ((f 280 2).toInt.toNat))]) (m' := (f, l)) rfl rfl (fl_bo rfl) rfl ?_
      refine fl_Tq.stp (pc' := 54) (lv' := [some (.inr (.inr (.inl (76, 277)))), some (.inl (r_spreadOf_a4 f ((f 280 2).toInt.toNat))), some (.inl (Int32.ofNat ((f 280 2).toInt.toNat)))]) (st' := [.inr (.inr (.inl (76, 277))), .inl (r_spreadOf_a4 f ((f 280 2).toInt.toNat))]) (m' := (f, l)) rfl rfl (fl_bo rfl) rfl ?_
      refine fl_Tq.cal rfl rfl (fl_bo rfl) rfl ?_
      refine r_leastPart_q hn hk ?_
      show fl_Tq _ 205 57 [some (.inr (.inr (.inl (76, 277)))), some (.inl (r_spreadOf_a4 f ((f 280 2).toInt.toNat))), some (.inl (Int32.ofNat ((f 280 2).toInt.toNat)))] [.inl (r_leastPart_v f), .inl (r_spreadOf_a4 f ((f 280 2).toInt.toNat))] (f, l) _
      refine fl_Tq.stp (pc' := 58) (lv' := [some (.inr (.inr (.inl (76, 277)))), some (.inl (r_spreadOf_a4 f ((f 280 2).toInt.toNat))), some (.inl (Int32.ofNat ((f 280 2).toInt.toNat)))]) (st' := [.inl ((r_spreadOf_a4 f ((f 280 2).toInt.toNat)) - (r_leastPart_v f))]) (m' := (f, l)) rfl rfl (fl_bo rfl) rfl ?_
      have e0 : (r_spreadOf_j45_0 f) = (r_spreadOf_a4 f ((f 280 2).toInt.toNat)) - (r_leastPart_v f) := by simp only [r_spreadOf_j45_0, if_neg h2]
      rw [e0] at hJ
      exact hJ
  refine hj83 ?_
  show fl_Tq _ 205 58 [some (.inr (.inr (.inl (76, 277)))), some (.inl (r_spreadOf_a4 f ((f 280 2).toInt.toNat))), some (.inl (Int32.ofNat ((f 280 2).toInt.toNat)))] [.inl (r_spreadOf_j45_0 f)] (f, l) _
  exact fl_Tq.ret rfl rfl rfl k
noncomputable def r_goTaper_a4 (f : t2_F) : Nat → Int32
  | 0 => (0 : Int32)
  | k4 + 1 => if (r_goTaper_a4 f k4).toInt = 0 then (if (r_voltsOf_v f (Int32.ofNat k4) k4).toInt < (f 280 57).toInt then (0 : Int32) else (1 : Int32)) else (1 : Int32)
noncomputable def r_goTaper_j99_0 (f : t2_F)  : Int32 := if (((f 280 54) * (9 : Int32)) / (10 : Int32)).toInt < (100 : Int32).toInt then (0 : Int32) else ((f 280 54) * (9 : Int32)) / (10 : Int32)
noncomputable def r_goTaper_m (f : t2_F) : t2_F := if (r_goTaper_a4 f ((f 280 2).toInt.toNat)).toInt = 0 then f else (if (f 280 3).toInt = (2 : Int32).toInt then (if (f 280 57).toInt = 0 then f else (if 0 < (f 280 54).toInt then fl_row f 280 (upd (f 280) 54 (r_goTaper_j99_0 f)) else f)) else f)
theorem r_goTaper_fr {f : t2_F}  {p : Nat}  (e280 : p ≠ 280) : r_goTaper_m f p = f p := by
  unfold r_goTaper_m
  repeat' split
  all_goals first | rfl | simp only [fl_row_ne e280]
theorem r_goTaper_w {f : t2_F}  {w : Nat} (e0 : w ≠ 54) : r_goTaper_m f 280 w = f 280 w := by
  unfold r_goTaper_m
  repeat' split
  all_goals first | rfl | simp only [fl_row_self, upd_ne e0]
theorem r_goTaper_q {L : Nat} {xs : Nat → Int32} {f : t2_F} {l : t2_L} {Q : Option fl_V → fl_M → Prop}  (hn : 0 ≤ (f 280 2).toInt ∧ (f 280 2).toInt ≤ 16) (hr : t2_RS f) (hk : ∀ C : Nat, (C : Int) < (f 280 2).toInt → t2_ck f C) (k : Q none (r_goTaper_m f, l)) : fl_Tq (pw_P L xs) 226 0 (fl_args (am_mxl (pw_P L xs) 226) [.inr (.inr (.inl (76, 277)))]) [] (f, l) Q := by
  refine fl_Tq.cI (c := (0 : Int32)) rfl (by decide +kernel) (fl_bo rfl) ?_
  refine fl_Tq.stp (pc' := 2) (lv' := [some (.inr (.inr (.inl (76, 277)))), some (.inl (0 : Int32)), none]) (st' := []) (m' := (f, l)) rfl rfl (fl_bo rfl) rfl ?_
  refine fl_Tq.cI (c := (0 : Int32)) rfl (by decide +kernel) (fl_bo rfl) ?_
  refine fl_Tq.stp (pc' := 4) (lv' := [some (.inr (.inr (.inl (76, 277)))), some (.inl (0 : Int32)), some (.inl (0 : Int32))]) (st' := []) (m' := (f, l)) rfl rfl (fl_bo rfl) rfl ?_
  have hs4 : ∀ k4 : Nat, k4 < (f 280 2).toInt.toNat → fl_Tq (pw_P L xs) 226 4 [some (.inr (.inr (.inl (76, 277)))), some (.inl (r_goTaper_a4 f (k4 + 1))), some (.inl (Int32.ofNat (k4 + 1)))] [] (f, l) Q → fl_Tq (pw_P L xs) 226 4 [some (.inr (.inr (.inl (76, 277)))), some (.inl (r_goTaper_a4 f k4)), some (.inl (Int32.ofNat k4))] [] (f, l) Q := by
    intro k4 hk4 hS
    refine fl_Tq.stp (pc' := 5) (lv' := [some (.inr (.inr (.inl (76, 277)))), some (.inl (r_goTaper_a4 f k4)), some (.inl (Int32.ofNat k4))]) (st' := [.inl (Int32.ofNat k4)]) (m' := (f, l)) rfl rfl (fl_bo rfl) rfl ?_
    refine fl_Tq.stp (pc' := 6) (lv' := [some (.inr (.inr (.inl (76, 277)))), some (.inl (r_goTaper_a4 f k4)), some (.inl (Int32.ofNat k4))]) (st' := [.inr (.inr (.inl (76, 277))), .inl (Int32.ofNat k4)]) (m' := (f, l)) rfl rfl (fl_bo rfl) rfl ?_
    refine fl_Tq.stp (pc' := 9) (lv' := [some (.inr (.inr (.inl (76, 277)))), some (.inl (r_goTaper_a4 f k4)), some (.inl (Int32.ofNat k4))]) (st' := [.inr (.inr (.inl (79, 280))), .inl (Int32.ofNat k4)]) (m' := (f, l)) rfl rfl (fl_bo rfl) rfl ?_
    refine fl_Tq.cI (c := (2 : Int32)) rfl (by decide +kernel) (fl_bo rfl) ?_
    refine fl_Tq.ldV (p := 280) (τ := 79) (n := 29780) (z := (0, 0, 0)) (k := 2) (v := f 280 2) rfl (fl_bo rfl) rfl (by decide +kernel) (by decide) rfl ?_
    refine fl_Tq.jf rfl (fl_bo rfl) (c2_ge_f (t2_lk hk4 (t2_nn hn.1))) rfl ?_
    refine fl_Tq.stp (pc' := 15) (lv' := [some (.inr (.inr (.inl (76, 277)))), some (.inl (r_goTaper_a4 f k4)), some (.inl (Int32.ofNat k4))]) (st' := [.inl (r_goTaper_a4 f k4)]) (m' := (f, l)) rfl rfl (fl_bo rfl) rfl ?_
    have hj84 : fl_Tq (pw_P L xs) 226 37 [some (.inr (.inr (.inl (76, 277)))), some (.inl (r_goTaper_a4 f k4)), some (.inl (Int32.ofNat k4))] [.inl (if (r_goTaper_a4 f k4).toInt = 0 then (if (r_voltsOf_v f (Int32.ofNat k4) k4).toInt < (f 280 57).toInt then (0 : Int32) else (1 : Int32)) else (1 : Int32))] (f, l) Q → fl_Tq (pw_P L xs) 226 15 [some (.inr (.inr (.inl (76, 277)))), some (.inl (r_goTaper_a4 f k4)), some (.inl (Int32.ofNat k4))] [.inl (r_goTaper_a4 f k4)] (f, l) Q := by
      intro hJ
      by_cases h1 : (r_goTaper_a4 f k4).toInt = 0
      · refine fl_Tq.zf rfl (fl_bo rfl) (c1_ne_f h1) rfl ?_
        refine fl_Tq.stp (pc' := 19) (lv' := [some (.inr (.inr (.inl (76, 277)))), some (.inl (r_goTaper_a4 f k4)), some (.inl (Int32.ofNat k4))]) (st' := [.inr (.inr (.inl (76, 277)))]) (m' := (f, l)) rfl rfl (fl_bo rfl) rfl ?_
        refine fl_Tq.stp (pc' := 20) (lv' := [some (.inr (.inr (.inl (76, 277)))), some (.inl (r_goTaper_a4 f k4)), some (.inl (Int32.ofNat k4))]) (st' := [.inl (Int32.ofNat k4), .inr (.inr (.inl (76, 277)))]) (m' := (f, l)) rfl rfl (fl_bo rfl) rfl ?_
        refine fl_Tq.cal rfl rfl (fl_bo rfl) rfl ?_
        refine r_voltsOf_q (at_ofN (by omega)) (by omega) hr (hk k4 (by omega)) ?_
        show fl_Tq _ 226 23 [some (.inr (.inr (.inl (76, 277)))), some (.inl (r_goTaper_a4 f k4)), some (.inl (Int32.ofNat k4))] [.inl (r_voltsOf_v f (Int32.ofNat k4) k4)] (f, l) _
        refine fl_Tq.stp (pc' := 24) (lv' := [some (.inr (.inr (.inl (76, 277)))), some (.inl (r_goTaper_a4 f k4)), some (.inl (Int32.ofNat k4))]) (st' := [.inr (.inr (.inl (76, 277))), .inl (r_voltsOf_v f (Int32.ofNat k4) k4)]) (m' := (f, l)) rfl rfl (fl_bo rfl) rfl ?_
        refine fl_Tq.cB (c := (23 : Int32)) rfl (by decide +kernel) (fl_bo rfl) ?_
        refine fl_Tq.cal rfl rfl (fl_bo rfl) rfl ?_
        refine t2_its (W := 23) (v := f 280 57) (by decide +kernel) (by decide) rfl ?_
        show fl_Tq _ 226 29 [some (.inr (.inr (.inl (76, 277)))), some (.inl (r_goTaper_a4 f k4)), some (.inl (Int32.ofNat k4))] [.inl (f 280 57), .inl (r_voltsOf_v f (Int32.ofNat k4) k4)] (f, l) _
        by_cases h2 : (r_voltsOf_v f (Int32.ofNat k4) k4).toInt < (f 280 57).toInt
        · refine fl_Tq.jt rfl (fl_bo rfl) (c2_lt_t h2) rfl ?_
          refine fl_Tq.cI (c := (0 : Int32)) rfl (by decide +kernel) (fl_bo rfl) ?_
          have e0 : (if (r_goTaper_a4 f k4).toInt = 0 then (if (r_voltsOf_v f (Int32.ofNat k4) k4).toInt < (f 280 57).toInt then (0 : Int32) else (1 : Int32)) else (1 : Int32)) = (0 : Int32) := by simp only [if_pos h1, if_pos h2]
          rw [e0] at hJ
          exact hJ
        · refine fl_Tq.jf rfl (fl_bo rfl) (c2_lt_f h2) rfl ?_
          refine fl_Tq.cI (c := (1 : Int32)) rfl (by decide +kernel) (fl_bo rfl) ?_
          refine fl_Tq.stp (pc' := 37) (lv' := [some (.inr (.inr (.inl (76, 277)))), some (.inl (r_goTaper_a4 f k4)), some (.inl (Int32.ofNat k4))]) (st' := [.inl (1 : Int32)]) (m' := (f, l)) rfl rfl (fl_bo rfl) rfl ?_
          have e0 : (if (r_goTaper_a4 f k4).toInt = 0 then (if (r_voltsOf_v f (Int32.ofNat k4) k4).toInt < (f 280 57).toInt then (0 : Int32) else (1 : Int32)) else (1 : Int32)) = (1 : Int32) := by simp only [if_pos h1, if_neg h2]
          rw [e0] at hJ
          exact hJ
      · refine fl_Tq.zt rfl (fl_bo rfl) (c1_ne_t h1) rfl ?_
        refine fl_Tq.cI (c := (1 : Int32)) rfl (by decide +kernel) (fl_bo rfl) ?_
        refine fl_Tq.stp (pc' := 37) (lv' := [some (.inr (.inr (.inl (76, 277)))), some (.inl (r_goTaper_a4 f k4)), some (.inl (Int32.ofNat k4))]) (st' := [.inl (1 : Int32)]) (m' := (f, l)) rfl rfl (fl_bo rfl) rfl ?_
        have e0 : (if (r_goTaper_a4 f k4).toInt = 0 then (if (r_voltsOf_v f (Int32.ofNat k4) k4).toInt < (f 280 57).toInt then (0 : Int32) else (1 : Int32)) else (1 : Int32)) = (1 : Int32) := by simp only [if_neg h1]
        rw [e0] at hJ
        exact hJ
    refine hj84 ?_
    show fl_Tq _ 226 37 [some (.inr (.inr (.inl (76, 277)))), some (.inl (r_goTaper_a4 f k4)), some (.inl (Int32.ofNat k4))] [.inl (if (r_goTaper_a4 f k4).toInt = 0 then (if (r_voltsOf_v f (Int32.ofNat k4) k4).toInt < (f 280 57).toInt then (0 : Int32) else (1 : Int32)) else (1 : Int32))] (f, l) _
    refine fl_Tq.stp (pc' := 38) (lv' := [some (.inr (.inr (.inl (76, 277)))), some (.inl (if (r_goTaper_a4 f k4).toInt = 0 then (if (r_voltsOf_v f (Int32.ofNat k4) k4).toInt < (f 280 57).toInt then (0 : Int32) else (1 : Int32)) else (1 : Int32))), some (.inl (Int32.ofNat k4))]) (st' := []) (m' := (f, l)) rfl rfl (fl_bo rfl) rfl ?_
    refine fl_Tq.stp (pc' := 41) (lv' := [some (.inr (.inr (.inl (76, 277)))), some (.inl (if (r_goTaper_a4 f k4).toInt = 0 then (if (r_voltsOf_v f (Int32.ofNat k4) k4).toInt < (f 280 57).toInt then (0 : Int32) else (1 : Int32)) else (1 : Int32))), some (.inl ((Int32.ofNat k4) + (1 : Int32)))]) (st' := []) (m' := (f, l)) rfl rfl (fl_bo rfl) rfl ?_
    refine fl_Tq.stp (pc' := 4) (lv' := [some (.inr (.inr (.inl (76, 277)))), some (.inl (if (r_goTaper_a4 f k4).toInt = 0 then (if (r_voltsOf_v f (Int32.ofNat k4) k4).toInt < (f 280 57).toInt then (0 : Int32) else (1 : Int32)) else (1 : Int32))), some (.inl ((Int32.ofNat k4) + (1 : Int32)))]) (st' := []) (m' := (f, l)) rfl rfl (fl_bo rfl) rfl ?_
    have ea : r_goTaper_a4 f (k4 + 1) = if (r_goTaper_a4 f k4).toInt = 0 then (if (r_voltsOf_v f (Int32.ofNat k4) k4).toInt < (f 280 57).toInt then (0 : Int32) else (1 : Int32)) else (1 : Int32) := by
      show (if (r_goTaper_a4 f k4).toInt = 0 then (if (r_voltsOf_v f (Int32.ofNat k4) k4).toInt < (f 280 57).toInt then (0 : Int32) else (1 : Int32)) else (1 : Int32)) = _
      rfl
    rw [ea, ← t2_k1] at hS
    exact hS
  refine t2_for (S := fun k4 => fl_Tq (pw_P L xs) 226 4 [some (.inr (.inr (.inl (76, 277)))), some (.inl (r_goTaper_a4 f k4)), some (.inl (Int32.ofNat k4))] [] (f, l) Q) hs4 ?_
  show fl_Tq (pw_P L xs) 226 4 [some (.inr (.inr (.inl (76, 277)))), some (.inl (r_goTaper_a4 f ((f 280 2).toInt.toNat))), some (.inl (Int32.ofNat ((f 280 2).toInt.toNat)))] [] (f, l) _
  refine fl_Tq.stp (pc' := 5) (lv' := [some (.inr (.inr (.inl (76, 277)))), some (.inl (r_goTaper_a4 f ((f 280 2).toInt.toNat))), some (.inl (Int32.ofNat ((f 280 2).toInt.toNat)))]) (st' := [.inl (Int32.ofNat ((f 280 2).toInt.toNat))]) (m' := (f, l)) rfl rfl (fl_bo rfl) rfl ?_
  refine fl_Tq.stp (pc' := 6) (lv' := [some (.inr (.inr (.inl (76, 277)))), some (.inl (r_goTaper_a4 f ((f 280 2).toInt.toNat))), some (.inl (Int32.ofNat ((f 280 2).toInt.toNat)))]) (st' := [.inr (.inr (.inl (76, 277))), .inl (Int32.ofNat ((f 280 2).toInt.toNat))]) (m' := (f, l)) rfl rfl (fl_bo rfl) rfl ?_
  refine fl_Tq.stp (pc' := 9) (lv' := [some (.inr (.inr (.inl (76, 277)))), some (.inl (r_goTaper_a4 f ((f 280 2).toInt.toNat))), some (.inl (Int32.ofNat ((f 280 2).toInt.toNat)))]) (st' := [.inr (.inr (.inl (79, 280))), .inl (Int32.ofNat ((f 280 2).toInt.toNat))]) (m' := (f, l)) rfl rfl (fl_bo rfl) rfl ?_
  refine fl_Tq.cI (c := (2 : Int32)) rfl (by decide +kernel) (fl_bo rfl) ?_
  refine fl_Tq.ldV (p := 280) (τ := 79) (n := 29780) (z := (0, 0, 0)) (k := 2) (v := f 280 2) rfl (fl_bo rfl) rfl (by decide +kernel) (by decide) rfl ?_
  refine fl_Tq.jt rfl (fl_bo rfl) (c2_ge_t (t2_ln (t2_nn hn.1))) rfl ?_
  refine fl_Tq.stp (pc' := 45) (lv' := [some (.inr (.inr (.inl (76, 277)))), some (.inl (r_goTaper_a4 f ((f 280 2).toInt.toNat))), some (.inl (Int32.ofNat ((f 280 2).toInt.toNat)))]) (st' := [.inl (r_goTaper_a4 f ((f 280 2).toInt.toNat))]) (m' := (f, l)) rfl rfl (fl_bo rfl) rfl ?_
  by_cases h3 : (r_goTaper_a4 f ((f 280 2).toInt.toNat)).toInt = 0
  · refine fl_Tq.zt rfl (fl_bo rfl) (c1_eq_t h3) rfl ?_
    refine fl_Tq.ret rfl rfl rfl ?_
    unfold r_goTaper_m at k
    simp only [if_pos h3] at k
    exact k
  · refine fl_Tq.zf rfl (fl_bo rfl) (c1_eq_f h3) rfl ?_
    refine fl_Tq.stp (pc' := 49) (lv' := [some (.inr (.inr (.inl (76, 277)))), some (.inl (r_goTaper_a4 f ((f 280 2).toInt.toNat))), some (.inl (Int32.ofNat ((f 280 2).toInt.toNat)))]) (st' := [.inr (.inr (.inl (76, 277)))]) (m' := (f, l)) rfl rfl (fl_bo rfl) rfl ?_
    refine fl_Tq.stp (pc' := 52) (lv' := [some (.inr (.inr (.inl (76, 277)))), some (.inl (r_goTaper_a4 f ((f 280 2).toInt.toNat))), some (.inl (Int32.ofNat ((f 280 2).toInt.toNat)))]) (st' := [.inr (.inr (.inl (79, 280)))]) (m' := (f, l)) rfl rfl (fl_bo rfl) rfl ?_
    refine fl_Tq.cI (c := (3 : Int32)) rfl (by decide +kernel) (fl_bo rfl) ?_
    refine fl_Tq.ldV (p := 280) (τ := 79) (n := 29780) (z := (0, 0, 0)) (k := 3) (v := f 280 3) rfl (fl_bo rfl) rfl (by decide +kernel) (by decide) rfl ?_
    refine fl_Tq.cI (c := (2 : Int32)) rfl (by decide +kernel) (fl_bo rfl) ?_
    by_cases h4 : (f 280 3).toInt = (2 : Int32).toInt
    · refine fl_Tq.jf rfl (fl_bo rfl) (c2_ne_f h4) rfl ?_
      refine fl_Tq.stp (pc' := 59) (lv' := [some (.inr (.inr (.inl (76, 277)))), some (.inl (r_goTaper_a4 f ((f 280 2).toInt.toNat))), some (.inl (Int32.ofNat ((f 280 2).toInt.toNat)))]) (st' := [.inr (.inr (.inl (76, 277)))]) (m' := (f, l)) rfl rfl (fl_bo rfl) rfl ?_
      refine fl_Tq.cB (c := (23 : Int32)) rfl (by decide +kernel) (fl_bo rfl) ?_
      refine fl_Tq.cal rfl rfl (fl_bo rfl) rfl ?_
      refine t2_its (W := 23) (v := f 280 57) (by decide +kernel) (by decide) rfl ?_
      show fl_Tq _ 226 64 [some (.inr (.inr (.inl (76, 277)))), some (.inl (r_goTaper_a4 f ((f 280 2).toInt.toNat))), some (.inl (Int32.ofNat ((f 280 2).toInt.toNat)))] [.inl (f 280 57)] (f, l) _
      by_cases h5 : (f 280 57).toInt = 0
      · refine fl_Tq.zt rfl (fl_bo rfl) (c1_eq_t h5) rfl ?_
        refine fl_Tq.ret rfl rfl rfl ?_
        unfold r_goTaper_m at k
        simp only [if_neg h3, if_pos h4, if_pos h5] at k
        exact k
      · refine fl_Tq.zf rfl (fl_bo rfl) (c1_eq_f h5) rfl ?_
        refine fl_Tq.stp (pc' := 68) (lv' := [some (.inr (.inr (.inl (76, 277)))), some (.inl (r_goTaper_a4 f ((f 280 2).toInt.toNat))), some (.inl (Int32.ofNat ((f 280 2).toInt.toNat)))]) (st' := [.inr (.inr (.inl (76, 277)))]) (m' := (f, l)) rfl rfl (fl_bo rfl) rfl ?_
        refine fl_Tq.cB (c := (20 : Int32)) rfl (by decide +kernel) (fl_bo rfl) ?_
        refine fl_Tq.cal rfl rfl (fl_bo rfl) rfl ?_
        refine t2_its (W := 20) (v := f 280 54) (by decide +kernel) (by decide) rfl ?_
        show fl_Tq _ 226 73 [some (.inr (.inr (.inl (76, 277)))), some (.inl (r_goTaper_a4 f ((f 280 2).toInt.toNat))), some (.inl (Int32.ofNat ((f 280 2).toInt.toNat)))] [.inl (f 280 54)] (f, l) _
        by_cases h6 : 0 < (f 280 54).toInt
        · refine fl_Tq.zt rfl (fl_bo rfl) (c1_gt_t h6) rfl ?_
          refine fl_Tq.stp (pc' := 78) (lv' := [some (.inr (.inr (.inl (76, 277)))), some (.inl (r_goTaper_a4 f ((f 280 2).toInt.toNat))), some (.inl (Int32.ofNat ((f 280 2).toInt.toNat)))]) (st' := [.inr (.inr (.inl (76, 277)))]) (m' := (f, l)) rfl rfl (fl_bo rfl) rfl ?_
          refine fl_Tq.cB (c := (20 : Int32)) rfl (by decide +kernel) (fl_bo rfl) ?_
          refine fl_Tq.cal rfl rfl (fl_bo rfl) rfl ?_
          refine t2_its (W := 20) (v := f 280 54) (by decide +kernel) (by decide) rfl ?_
          show fl_Tq _ 226 83 [some (.inr (.inr (.inl (76, 277)))), some (.inl (r_goTaper_a4 f ((f 280 2).toInt.toNat))), some (.inl (Int32.ofNat ((f 280 2).toInt.toNat)))] [.inl (f 280 54)] (f, l) _
          refine fl_Tq.cB (c := (9 : Int32)) rfl (by decide +kernel) (fl_bo rfl) ?_
          refine fl_Tq.stp (pc' := 86) (lv' := [some (.inr (.inr (.inl (76, 277)))), some (.inl (r_goTaper_a4 f ((f 280 2).toInt.toNat))), some (.inl (Int32.ofNat ((f 280 2).toInt.toNat)))]) (st' := [.inl ((f 280 54) * (9 : Int32))]) (m' := (f, l)) rfl rfl (fl_bo rfl) rfl ?_
          refine fl_Tq.cB (c := (10 : Int32)) rfl (by decide +kernel) (fl_bo rfl) ?_
          refine fl_Tq.dv rfl (fl_bo rfl) (by decide +kernel) ?_
          refine fl_Tq.stp (pc' := 90) (lv' := [some (.inr (.inr (.inl (76, 277)))), some (.inl (r_goTaper_a4 f ((f 280 2).toInt.toNat))), some (.inl (((f 280 54) * (9 : Int32)) / (10 : Int32)))]) (st' := []) (m' := (f, l)) rfl rfl (fl_bo rfl) rfl ?_
          refine fl_Tq.stp (pc' := 91) (lv' := [some (.inr (.inr (.inl (76, 277)))), some (.inl (r_goTaper_a4 f ((f 280 2).toInt.toNat))), some (.inl (((f 280 54) * (9 : Int32)) / (10 : Int32)))]) (st' := [.inr (.inr (.inl (76, 277)))]) (m' := (f, l)) rfl rfl (fl_bo rfl) rfl ?_
          refine fl_Tq.stp (pc' := 94) (lv' := [some (.inr (.inr (.inl (76, 277)))), some (.inl (r_goTaper_a4 f ((f 280 2).toInt.toNat))), some (.inl (((f 280 54) * (9 : Int32)) / (10 : Int32)))]) (st' := [.inr (.inr (.inl (79, 280)))]) (m' := (f, l)) rfl rfl (fl_bo rfl) rfl ?_
          refine fl_Tq.cB (c := (54 : Int32)) rfl (by decide +kernel) (fl_bo rfl) ?_
          refine fl_Tq.stp (pc' := 97) (lv' := [some (.inr (.inr (.inl (76, 277)))), some (.inl (r_goTaper_a4 f ((f 280 2).toInt.toNat))), some (.inl (((f 280 54) * (9 : Int32)) / (10 : Int32)))]) (st' := [.inl (((f 280 54) * (9 : Int32)) / (10 : Int32)), .inl (54 : Int32), .inr (.inr (.inl (79, 280)))]) (m' := (f, l)) rfl rfl (fl_bo rfl) rfl ?_
          refine fl_Tq.cB (c := (100 : Int32)) rfl (by decide +kernel) (fl_bo rfl) ?_
          have hj85 : fl_Tq (pw_P L xs) 226 107 [some (.inr (.inr (.inl (76, 277)))), some (.inl (r_goTaper_a4 f ((f 280 2).toInt.toNat))), some (.inl (((f 280 54) * (9 : Int32)) / (10 : Int32)))] [.inl (r_goTaper_j99_0 f), .inl (54 : Int32), .inr (.inr (.inl (79, 280)))] (f, l) Q → fl_Tq (pw_P L xs) 226 99 [some (.inr (.inr (.inl (76, 277)))), some (.inl (r_goTaper_a4 f ((f 280 2).toInt.toNat))), some (.inl (((f 280 54) * (9 : Int32)) / (10 : Int32)))] [.inl (100 : Int32), .inl (((f 280 54) * (9 : Int32)) / (10 : Int32)), .inl (54 : Int32), .inr (.inr (.inl (79, 280)))] (f, l) Q := by
            intro hJ
            by_cases h7 : (((f 280 54) * (9 : Int32)) / (10 : Int32)).toInt < (100 : Int32).toInt
            · refine fl_Tq.jf rfl (fl_bo rfl) (c2_ge_f h7) rfl ?_
              refine fl_Tq.cI (c := (0 : Int32)) rfl (by decide +kernel) (fl_bo rfl) ?_
              refine fl_Tq.stp (pc' := 107) (lv' := [some (.inr (.inr (.inl (76, 277)))), some (.inl (r_goTaper_a4 f ((f 280 2).toInt.toNat))), some (.inl (((f 280 54) * (9 : Int32)) / (10 : Int32)))]) (st' := [.inl (0 : Int32), .inl (54 : Int32), .inr (.inr (.inl (79, 280)))]) (m' := (f, l)) rfl rfl (fl_bo rfl) rfl ?_
              have e0 : (r_goTaper_j99_0 f) = (0 : Int32) := by simp only [r_goTaper_j99_0, if_pos h7]
              rw [e0] at hJ
              exact hJ
            · refine fl_Tq.jt rfl (fl_bo rfl) (c2_ge_t h7) rfl ?_
              refine fl_Tq.stp (pc' := 107) (lv' := [some (.inr (.inr (.inl (76, 277)))), some (.inl (r_goTaper_a4 f ((f 280 2).toInt.toNat))), some (.inl (((f 280 54) * (9 : Int32)) / (10 : Int32)))]) (st' := [.inl (((f 280 54) * (9 : Int32)) / (10 : Int32)), .inl (54 : Int32), .inr (.inr (.inl (79, 280)))]) (m' := (f, l)) rfl rfl (fl_bo rfl) rfl ?_
              have e0 : (r_goTaper_j99_0 f) = ((f 280 54) * (9 : Int32)) / (10 : Int32) := by simp only [r_goTaper_j99_0, if_neg h7]
              rw [e0] at hJ
              exact hJ
          refine hj85 ?_
          show fl_Tq _ 226 107 [some (.inr (.inr (.inl (76, 277)))), some (.inl (r_goTaper_a4 f ((f 280 2).toInt.toNat))), some (.inl (((f 280 54) * (9 : Int32)) / (10 : Int32)))] [.inl (r_goTaper_j99_0 f), .inl (54 : Int32), .inr (.inr (.inl (79, 280)))] (f, l) _
          refine fl_Tq.svV (p := 280) (τ := 79) (n := 29780) (z := (0, 0, 0)) (k := 54) (m' := (fl_row f 280 (upd (f 280) 54 (r_goTaper_j99_0 f)), l)) rfl (fl_bo rfl) rfl (by decide +kernel) (by decide) (t2_upn rfl) ?_
          refine fl_Tq.ret rfl rfl rfl ?_
          unfold r_goTaper_m at k
          simp only [if_neg h3, if_pos h4, if_neg h5, if_pos h6] at k
          exact k
        · refine fl_Tq.zf rfl (fl_bo rfl) (c1_gt_f h6) rfl ?_
          refine fl_Tq.ret rfl rfl rfl ?_
          unfold r_goTaper_m at k
          simp only [if_neg h3, if_pos h4, if_neg h5, if_neg h6] at k
          exact k
    · refine fl_Tq.jt rfl (fl_bo rfl) (c2_ne_t h4) rfl ?_
      refine fl_Tq.ret rfl rfl rfl ?_
      unfold r_goTaper_m at k
      simp only [if_neg h3, if_neg h4] at k
      exact k
noncomputable def r_isSo_v (f : t2_F) (x : Int32) : Int32 := if x.toInt < (4 : Int32).toInt then (if (r_soBy_v f x).toInt = (-1 : Int32).toInt then (if x.toInt = (2 : Int32).toInt then (if (f 280 36).toInt < (f 280 8).toInt then (1 : Int32) else (0 : Int32)) else (0 : Int32)) else (1 : Int32)) else (if x.toInt = (4 : Int32).toInt then (if (f 280 3).toInt = (2 : Int32).toInt then (if (f 280 38).toInt < (r_size_v (f 280 54)).toInt then (1 : Int32) else (0 : Int32)) else (0 : Int32)) else (if x.toInt = (5 : Int32).toInt then f 277 4 else (if x.toInt = (6 : Int32).toInt then (if (f 280 15).toInt < (3 : Int32).toInt then (0 : Int32) else (1 : Int32)) else (if x.toInt = (7 : Int32).toInt then (if (f 280 51).toInt < (r_spreadOf_v f).toInt then (1 : Int32) else (0 : Int32)) else (if x.toInt = (8 : Int32).toInt then (if (f 280 16).toInt < (2 : Int32).toInt then (0 : Int32) else (1 : Int32)) else (if x.toInt = (9 : Int32).toInt then (if (f 280 62).toInt = 0 then (0 : Int32) else (if (f 280 62).toInt < (f 280 22).toInt then (1 : Int32) else (0 : Int32))) else (if (f 280 63).toInt = 0 then (1 : Int32) else (0 : Int32))))))))
theorem r_isSo_q {L : Nat} {xs : Nat → Int32} {f : t2_F} {l : t2_L} {Q : Option fl_V → fl_M → Prop} {x : Int32} (hn : 0 ≤ (f 280 2).toInt ∧ (f 280 2).toInt ≤ 16) (hr : t2_RS f) (hk : ∀ C : Nat, (C : Int) < (f 280 2).toInt → t2_ck f C) (hs : f 277 4 = 0 ∨ f 277 4 = 1) (k : Q (some (.inl (r_isSo_v f x))) (f, l)) : fl_Tq (pw_P L xs) 227 0 (fl_args (am_mxl (pw_P L xs) 227) [.inr (.inr (.inl (76, 277))), .inl x]) [] (f, l) Q := by
  refine fl_Tq.stp (pc' := 1) (lv' := [some (.inr (.inr (.inl (76, 277)))), some (.inl x)]) (st' := [.inl x]) (m' := (f, l)) rfl rfl (fl_bo rfl) rfl ?_
  refine fl_Tq.cI (c := (4 : Int32)) rfl (by decide +kernel) (fl_bo rfl) ?_
  by_cases h1 : x.toInt < (4 : Int32).toInt
  · refine fl_Tq.jf rfl (fl_bo rfl) (c2_ge_f h1) rfl ?_
    refine fl_Tq.stp (pc' := 6) (lv' := [some (.inr (.inr (.inl (76, 277)))), some (.inl x)]) (st' := [.inr (.inr (.inl (76, 277)))]) (m' := (f, l)) rfl rfl (fl_bo rfl) rfl ?_
    refine fl_Tq.stp (pc' := 7) (lv' := [some (.inr (.inr (.inl (76, 277)))), some (.inl x)]) (st' := [.inl x, .inr (.inr (.inl (76, 277)))]) (m' := (f, l)) rfl rfl (fl_bo rfl) rfl ?_
    refine fl_Tq.cal rfl rfl (fl_bo rfl) rfl ?_
    refine r_soBy_q hn hr hk ?_
    show fl_Tq _ 227 10 [some (.inr (.inr (.inl (76, 277)))), some (.inl x)] [.inl (r_soBy_v f x)] (f, l) _
    refine fl_Tq.cI (c := (-1 : Int32)) rfl (by decide +kernel) (fl_bo rfl) ?_
    by_cases h2 : (r_soBy_v f x).toInt = (-1 : Int32).toInt
    · refine fl_Tq.jf rfl (fl_bo rfl) (c2_ne_f h2) rfl ?_
      refine fl_Tq.stp (pc' := 15) (lv' := [some (.inr (.inr (.inl (76, 277)))), some (.inl x)]) (st' := [.inl x]) (m' := (f, l)) rfl rfl (fl_bo rfl) rfl ?_
      refine fl_Tq.cI (c := (2 : Int32)) rfl (by decide +kernel) (fl_bo rfl) ?_
      by_cases h3 : x.toInt = (2 : Int32).toInt
      · refine fl_Tq.jf rfl (fl_bo rfl) (c2_ne_f h3) rfl ?_
        refine fl_Tq.stp (pc' := 20) (lv' := [some (.inr (.inr (.inl (76, 277)))), some (.inl x)]) (st' := [.inr (.inr (.inl (76, 277)))]) (m' := (f, l)) rfl rfl (fl_bo rfl) rfl ?_
        refine fl_Tq.stp (pc' := 23) (lv' := [some (.inr (.inr (.inl (76, 277)))), some (.inl x)]) (st' := [.inr (.inr (.inl (79, 280)))]) (m' := (f, l)) rfl rfl (fl_bo rfl) rfl ?_
        refine fl_Tq.cB (c := (8 : Int32)) rfl (by decide +kernel) (fl_bo rfl) ?_
        refine fl_Tq.ldV (p := 280) (τ := 79) (n := 29780) (z := (0, 0, 0)) (k := 8) (v := f 280 8) rfl (fl_bo rfl) rfl (by decide +kernel) (by decide) rfl ?_
        refine fl_Tq.stp (pc' := 27) (lv' := [some (.inr (.inr (.inl (76, 277)))), some (.inl x)]) (st' := [.inr (.inr (.inl (76, 277))), .inl (f 280 8)]) (m' := (f, l)) rfl rfl (fl_bo rfl) rfl ?_
        refine fl_Tq.cI (c := (2 : Int32)) rfl (by decide +kernel) (fl_bo rfl) ?_
        refine fl_Tq.cal rfl rfl (fl_bo rfl) rfl ?_
        refine t2_its (W := 2) (v := f 280 36) (by decide +kernel) (by decide) rfl ?_
        show fl_Tq _ 227 31 [some (.inr (.inr (.inl (76, 277)))), some (.inl x)] [.inl (f 280 36), .inl (f 280 8)] (f, l) _
        by_cases h4 : (f 280 36).toInt < (f 280 8).toInt
        · refine fl_Tq.jf rfl (fl_bo rfl) (c2_le_f h4) rfl ?_
          refine fl_Tq.cI (c := (1 : Int32)) rfl (by decide +kernel) (fl_bo rfl) ?_
          refine fl_Tq.stp (pc' := 39) (lv' := [some (.inr (.inr (.inl (76, 277)))), some (.inl x)]) (st' := [.inl (1 : Int32)]) (m' := (f, l)) rfl rfl (fl_bo rfl) rfl ?_
          refine fl_Tq.ret rfl rfl rfl ?_
          unfold r_isSo_v at k
          simp only [if_pos h1, if_pos h2, if_pos h3, if_pos h4] at k
          exact k
        · refine fl_Tq.jt rfl (fl_bo rfl) (c2_le_t h4) rfl ?_
          refine fl_Tq.cI (c := (0 : Int32)) rfl (by decide +kernel) (fl_bo rfl) ?_
          refine fl_Tq.ret rfl rfl rfl ?_
          unfold r_isSo_v at k
          simp only [if_pos h1, if_pos h2, if_pos h3, if_neg h4] at k
          exact k
      · refine fl_Tq.jt rfl (fl_bo rfl) (c2_ne_t h3) rfl ?_
        refine fl_Tq.cI (c := (0 : Int32)) rfl (by decide +kernel) (fl_bo rfl) ?_
        refine fl_Tq.ret rfl rfl rfl ?_
        unfold r_isSo_v at k
        simp only [if_pos h1, if_pos h2, if_neg h3] at k
        exact k
    · refine fl_Tq.jt rfl (fl_bo rfl) (c2_ne_t h2) rfl ?_
      refine fl_Tq.cI (c := (1 : Int32)) rfl (by decide +kernel) (fl_bo rfl) ?_
      refine fl_Tq.stp (pc' := 39) (lv' := [some (.inr (.inr (.inl (76, 277)))), some (.inl x)]) (st' := [.inl (1 : Int32)]) (m' := (f, l)) rfl rfl (fl_bo rfl) rfl ?_
      refine fl_Tq.ret rfl rfl rfl ?_
      unfold r_isSo_v at k
      simp only [if_pos h1, if_neg h2] at k
      exact k
  · refine fl_Tq.jt rfl (fl_bo rfl) (c2_ge_t h1) rfl ?_
    refine fl_Tq.stp (pc' := 41) (lv' := [some (.inr (.inr (.inl (76, 277)))), some (.inl x)]) (st' := [.inl x]) (m' := (f, l)) rfl rfl (fl_bo rfl) rfl ?_
    refine fl_Tq.cI (c := (4 : Int32)) rfl (by decide +kernel) (fl_bo rfl) ?_
    by_cases h5 : x.toInt = (4 : Int32).toInt
    · refine fl_Tq.jf rfl (fl_bo rfl) (c2_ne_f h5) rfl ?_
      refine fl_Tq.stp (pc' := 46) (lv' := [some (.inr (.inr (.inl (76, 277)))), some (.inl x)]) (st' := [.inr (.inr (.inl (76, 277)))]) (m' := (f, l)) rfl rfl (fl_bo rfl) rfl ?_
      refine fl_Tq.stp (pc' := 49) (lv' := [some (.inr (.inr (.inl (76, 277)))), some (.inl x)]) (st' := [.inr (.inr (.inl (79, 280)))]) (m' := (f, l)) rfl rfl (fl_bo rfl) rfl ?_
      refine fl_Tq.cI (c := (3 : Int32)) rfl (by decide +kernel) (fl_bo rfl) ?_
      refine fl_Tq.ldV (p := 280) (τ := 79) (n := 29780) (z := (0, 0, 0)) (k := 3) (v := f 280 3) rfl (fl_bo rfl) rfl (by decide +kernel) (by decide) rfl ?_
      refine fl_Tq.cI (c := (2 : Int32)) rfl (by decide +kernel) (fl_bo rfl) ?_
      by_cases h6 : (f 280 3).toInt = (2 : Int32).toInt
      · refine fl_Tq.jf rfl (fl_bo rfl) (c2_ne_f h6) rfl ?_
        refine fl_Tq.stp (pc' := 56) (lv' := [some (.inr (.inr (.inl (76, 277)))), some (.inl x)]) (st' := [.inr (.inr (.inl (76, 277)))]) (m' := (f, l)) rfl rfl (fl_bo rfl) rfl ?_
        refine fl_Tq.cB (c := (20 : Int32)) rfl (by decide +kernel) (fl_bo rfl) ?_
        refine fl_Tq.cal rfl rfl (fl_bo rfl) rfl ?_
        refine t2_its (W := 20) (v := f 280 54) (by decide +kernel) (by decide) rfl ?_
        show fl_Tq _ 227 61 [some (.inr (.inr (.inl (76, 277)))), some (.inl x)] [.inl (f 280 54)] (f, l) _
        refine fl_Tq.cal rfl rfl (fl_bo rfl) rfl ?_
        refine r_size_q  ?_
        show fl_Tq _ 227 64 [some (.inr (.inr (.inl (76, 277)))), some (.inl x)] [.inl (r_size_v (f 280 54))] (f, l) _
        refine fl_Tq.stp (pc' := 65) (lv' := [some (.inr (.inr (.inl (76, 277)))), some (.inl x)]) (st' := [.inr (.inr (.inl (76, 277))), .inl (r_size_v (f 280 54))]) (m' := (f, l)) rfl rfl (fl_bo rfl) rfl ?_
        refine fl_Tq.cI (c := (4 : Int32)) rfl (by decide +kernel) (fl_bo rfl) ?_
        refine fl_Tq.cal rfl rfl (fl_bo rfl) rfl ?_
        refine t2_its (W := 4) (v := f 280 38) (by decide +kernel) (by decide) rfl ?_
        show fl_Tq _ 227 69 [some (.inr (.inr (.inl (76, 277)))), some (.inl x)] [.inl (f 280 38), .inl (r_size_v (f 280 54))] (f, l) _
        by_cases h7 : (f 280 38).toInt < (r_size_v (f 280 54)).toInt
        · refine fl_Tq.jf rfl (fl_bo rfl) (c2_le_f h7) rfl ?_
          refine fl_Tq.cI (c := (1 : Int32)) rfl (by decide +kernel) (fl_bo rfl) ?_
          refine fl_Tq.stp (pc' := 77) (lv' := [some (.inr (.inr (.inl (76, 277)))), some (.inl x)]) (st' := [.inl (1 : Int32)]) (m' := (f, l)) rfl rfl (fl_bo rfl) rfl ?_
          refine fl_Tq.ret rfl rfl rfl ?_
          unfold r_isSo_v at k
          simp only [if_neg h1, if_pos h5, if_pos h6, if_pos h7] at k
          exact k
        · refine fl_Tq.jt rfl (fl_bo rfl) (c2_le_t h7) rfl ?_
          refine fl_Tq.cI (c := (0 : Int32)) rfl (by decide +kernel) (fl_bo rfl) ?_
          refine fl_Tq.ret rfl rfl rfl ?_
          unfold r_isSo_v at k
          simp only [if_neg h1, if_pos h5, if_pos h6, if_neg h7] at k
          exact k
      · refine fl_Tq.jt rfl (fl_bo rfl) (c2_ne_t h6) rfl ?_
        refine fl_Tq.cI (c := (0 : Int32)) rfl (by decide +kernel) (fl_bo rfl) ?_
        refine fl_Tq.ret rfl rfl rfl ?_
        unfold r_isSo_v at k
        simp only [if_neg h1, if_pos h5, if_neg h6] at k
        exact k
    · refine fl_Tq.jt rfl (fl_bo rfl) (c2_ne_t h5) rfl ?_
      refine fl_Tq.stp (pc' := 79) (lv' := [some (.inr (.inr (.inl (76, 277)))), some (.inl x)]) (st' := [.inl x]) (m' := (f, l)) rfl rfl (fl_bo rfl) rfl ?_
      refine fl_Tq.cI (c := (5 : Int32)) rfl (by decide +kernel) (fl_bo rfl) ?_
      by_cases h8 : x.toInt = (5 : Int32).toInt
      · refine fl_Tq.jf rfl (fl_bo rfl) (c2_ne_f h8) rfl ?_
        refine fl_Tq.stp (pc' := 84) (lv' := [some (.inr (.inr (.inl (76, 277)))), some (.inl x)]) (st' := [.inr (.inr (.inl (76, 277)))]) (m' := (f, l)) rfl rfl (fl_bo rfl) rfl ?_
        refine fl_Tq.gfV (k := 4) (v := f 277 4) rfl (fl_bo rfl) rfl rfl ?_
        refine fl_Tq.ret rfl rfl (if_pos hs) ?_
        unfold r_isSo_v at k
        simp only [if_neg h1, if_neg h5, if_pos h8] at k
        exact k
      · refine fl_Tq.jt rfl (fl_bo rfl) (c2_ne_t h8) rfl ?_
        refine fl_Tq.stp (pc' := 89) (lv' := [some (.inr (.inr (.inl (76, 277)))), some (.inl x)]) (st' := [.inl x]) (m' := (f, l)) rfl rfl (fl_bo rfl) rfl ?_
        refine fl_Tq.cB (c := (6 : Int32)) rfl (by decide +kernel) (fl_bo rfl) ?_
        by_cases h9 : x.toInt = (6 : Int32).toInt
        · refine fl_Tq.jf rfl (fl_bo rfl) (c2_ne_f h9) rfl ?_
          refine fl_Tq.stp (pc' := 95) (lv' := [some (.inr (.inr (.inl (76, 277)))), some (.inl x)]) (st' := [.inr (.inr (.inl (76, 277)))]) (m' := (f, l)) rfl rfl (fl_bo rfl) rfl ?_
          refine fl_Tq.stp (pc' := 98) (lv' := [some (.inr (.inr (.inl (76, 277)))), some (.inl x)]) (st' := [.inr (.inr (.inl (79, 280)))]) (m' := (f, l)) rfl rfl (fl_bo rfl) rfl ?_
          refine fl_Tq.cB (c := (15 : Int32)) rfl (by decide +kernel) (fl_bo rfl) ?_
          refine fl_Tq.ldV (p := 280) (τ := 79) (n := 29780) (z := (0, 0, 0)) (k := 15) (v := f 280 15) rfl (fl_bo rfl) rfl (by decide +kernel) (by decide) rfl ?_
          refine fl_Tq.cI (c := (3 : Int32)) rfl (by decide +kernel) (fl_bo rfl) ?_
          by_cases h10 : (f 280 15).toInt < (3 : Int32).toInt
          · refine fl_Tq.jt rfl (fl_bo rfl) (c2_lt_t h10) rfl ?_
            refine fl_Tq.cI (c := (0 : Int32)) rfl (by decide +kernel) (fl_bo rfl) ?_
            refine fl_Tq.ret rfl rfl rfl ?_
            unfold r_isSo_v at k
            simp only [if_neg h1, if_neg h5, if_neg h8, if_pos h9, if_pos h10] at k
            exact k
          · refine fl_Tq.jf rfl (fl_bo rfl) (c2_lt_f h10) rfl ?_
            refine fl_Tq.cI (c := (1 : Int32)) rfl (by decide +kernel) (fl_bo rfl) ?_
            refine fl_Tq.stp (pc' := 110) (lv' := [some (.inr (.inr (.inl (76, 277)))), some (.inl x)]) (st' := [.inl (1 : Int32)]) (m' := (f, l)) rfl rfl (fl_bo rfl) rfl ?_
            refine fl_Tq.ret rfl rfl rfl ?_
            unfold r_isSo_v at k
            simp only [if_neg h1, if_neg h5, if_neg h8, if_pos h9, if_neg h10] at k
            exact k
        · refine fl_Tq.jt rfl (fl_bo rfl) (c2_ne_t h9) rfl ?_
          refine fl_Tq.stp (pc' := 112) (lv' := [some (.inr (.inr (.inl (76, 277)))), some (.inl x)]) (st' := [.inl x]) (m' := (f, l)) rfl rfl (fl_bo rfl) rfl ?_
          refine fl_Tq.cB (c := (7 : Int32)) rfl (by decide +kernel) (fl_bo rfl) ?_
          by_cases h11 : x.toInt = (7 : Int32).toInt
          · refine fl_Tq.jf rfl (fl_bo rfl) (c2_ne_f h11) rfl ?_
            refine fl_Tq.stp (pc' := 118) (lv' := [some (.inr (.inr (.inl (76, 277)))), some (.inl x)]) (st' := [.inr (.inr (.inl (76, 277)))]) (m' := (f, l)) rfl rfl (fl_bo rfl) rfl ?_
            refine fl_Tq.cal rfl rfl (fl_bo rfl) rfl ?_
            refine r_spreadOf_q hn hk ?_
            show fl_Tq _ 227 121 [some (.inr (.inr (.inl (76, 277)))), some (.inl x)] [.inl (r_spreadOf_v f)] (f, l) _
            refine fl_Tq.stp (pc' := 122) (lv' := [some (.inr (.inr (.inl (76, 277)))), some (.inl x)]) (st' := [.inr (.inr (.inl (76, 277))), .inl (r_spreadOf_v f)]) (m' := (f, l)) rfl rfl (fl_bo rfl) rfl ?_
            refine fl_Tq.cB (c := (17 : Int32)) rfl (by decide +kernel) (fl_bo rfl) ?_
            refine fl_Tq.cal rfl rfl (fl_bo rfl) rfl ?_
            refine t2_its (W := 17) (v := f 280 51) (by decide +kernel) (by decide) rfl ?_
            show fl_Tq _ 227 127 [some (.inr (.inr (.inl (76, 277)))), some (.inl x)] [.inl (f 280 51), .inl (r_spreadOf_v f)] (f, l) _
            by_cases h12 : (f 280 51).toInt < (r_spreadOf_v f).toInt
            · refine fl_Tq.jf rfl (fl_bo rfl) (c2_le_f h12) rfl ?_
              refine fl_Tq.cI (c := (1 : Int32)) rfl (by decide +kernel) (fl_bo rfl) ?_
              refine fl_Tq.stp (pc' := 135) (lv' := [some (.inr (.inr (.inl (76, 277)))), some (.inl x)]) (st' := [.inl (1 : Int32)]) (m' := (f, l)) rfl rfl (fl_bo rfl) rfl ?_
              refine fl_Tq.ret rfl rfl rfl ?_
              unfold r_isSo_v at k
              simp only [if_neg h1, if_neg h5, if_neg h8, if_neg h9, if_pos h11, if_pos h12] at k
              exact k
            · refine fl_Tq.jt rfl (fl_bo rfl) (c2_le_t h12) rfl ?_
              refine fl_Tq.cI (c := (0 : Int32)) rfl (by decide +kernel) (fl_bo rfl) ?_
              refine fl_Tq.ret rfl rfl rfl ?_
              unfold r_isSo_v at k
              simp only [if_neg h1, if_neg h5, if_neg h8, if_neg h9, if_pos h11, if_neg h12] at k
              exact k
          · refine fl_Tq.jt rfl (fl_bo rfl) (c2_ne_t h11) rfl ?_
            refine fl_Tq.stp (pc' := 137) (lv' := [some (.inr (.inr (.inl (76, 277)))), some (.inl x)]) (st' := [.inl x]) (m' := (f, l)) rfl rfl (fl_bo rfl) rfl ?_
            refine fl_Tq.cB (c := (8 : Int32)) rfl (by decide +kernel) (fl_bo rfl) ?_
            by_cases h13 : x.toInt = (8 : Int32).toInt
            · refine fl_Tq.jf rfl (fl_bo rfl) (c2_ne_f h13) rfl ?_
              refine fl_Tq.stp (pc' := 143) (lv' := [some (.inr (.inr (.inl (76, 277)))), some (.inl x)]) (st' := [.inr (.inr (.inl (76, 277)))]) (m' := (f, l)) rfl rfl (fl_bo rfl) rfl ?_
              refine fl_Tq.stp (pc' := 146) (lv' := [some (.inr (.inr (.inl (76, 277)))), some (.inl x)]) (st' := [.inr (.inr (.inl (79, 280)))]) (m' := (f, l)) rfl rfl (fl_bo rfl) rfl ?_
              refine fl_Tq.cB (c := (16 : Int32)) rfl (by decide +kernel) (fl_bo rfl) ?_
              refine fl_Tq.ldV (p := 280) (τ := 79) (n := 29780) (z := (0, 0, 0)) (k := 16) (v := f 280 16) rfl (fl_bo rfl) rfl (by decide +kernel) (by decide) rfl ?_
              refine fl_Tq.cI (c := (2 : Int32)) rfl (by decide +kernel) (fl_bo rfl) ?_
              by_cases h14 : (f 280 16).toInt < (2 : Int32).toInt
              · refine fl_Tq.jt rfl (fl_bo rfl) (c2_lt_t h14) rfl ?_
                refine fl_Tq.cI (c := (0 : Int32)) rfl (by decide +kernel) (fl_bo rfl) ?_
                refine fl_Tq.ret rfl rfl rfl ?_
                unfold r_isSo_v at k
                simp only [if_neg h1, if_neg h5, if_neg h8, if_neg h9, if_neg h11, if_pos h13, if_pos h14] at k
                exact k
              · refine fl_Tq.jf rfl (fl_bo rfl) (c2_lt_f h14) rfl ?_
                refine fl_Tq.cI (c := (1 : Int32)) rfl (by decide +kernel) (fl_bo rfl) ?_
                refine fl_Tq.stp (pc' := 158) (lv' := [some (.inr (.inr (.inl (76, 277)))), some (.inl x)]) (st' := [.inl (1 : Int32)]) (m' := (f, l)) rfl rfl (fl_bo rfl) rfl ?_
                refine fl_Tq.ret rfl rfl rfl ?_
                unfold r_isSo_v at k
                simp only [if_neg h1, if_neg h5, if_neg h8, if_neg h9, if_neg h11, if_pos h13, if_neg h14] at k
                exact k
            · refine fl_Tq.jt rfl (fl_bo rfl) (c2_ne_t h13) rfl ?_
              refine fl_Tq.stp (pc' := 160) (lv' := [some (.inr (.inr (.inl (76, 277)))), some (.inl x)]) (st' := [.inl x]) (m' := (f, l)) rfl rfl (fl_bo rfl) rfl ?_
              refine fl_Tq.cB (c := (9 : Int32)) rfl (by decide +kernel) (fl_bo rfl) ?_
              by_cases h15 : x.toInt = (9 : Int32).toInt
              · refine fl_Tq.jf rfl (fl_bo rfl) (c2_ne_f h15) rfl ?_
                refine fl_Tq.stp (pc' := 166) (lv' := [some (.inr (.inr (.inl (76, 277)))), some (.inl x)]) (st' := [.inr (.inr (.inl (76, 277)))]) (m' := (f, l)) rfl rfl (fl_bo rfl) rfl ?_
                refine fl_Tq.cB (c := (28 : Int32)) rfl (by decide +kernel) (fl_bo rfl) ?_
                refine fl_Tq.cal rfl rfl (fl_bo rfl) rfl ?_
                refine t2_its (W := 28) (v := f 280 62) (by decide +kernel) (by decide) rfl ?_
                show fl_Tq _ 227 171 [some (.inr (.inr (.inl (76, 277)))), some (.inl x)] [.inl (f 280 62)] (f, l) _
                by_cases h16 : (f 280 62).toInt = 0
                · refine fl_Tq.zt rfl (fl_bo rfl) (c1_eq_t h16) rfl ?_
                  refine fl_Tq.cI (c := (0 : Int32)) rfl (by decide +kernel) (fl_bo rfl) ?_
                  refine fl_Tq.ret rfl rfl rfl ?_
                  unfold r_isSo_v at k
                  simp only [if_neg h1, if_neg h5, if_neg h8, if_neg h9, if_neg h11, if_neg h13, if_pos h15, if_pos h16] at k
                  exact k
                · refine fl_Tq.zf rfl (fl_bo rfl) (c1_eq_f h16) rfl ?_
                  refine fl_Tq.stp (pc' := 175) (lv' := [some (.inr (.inr (.inl (76, 277)))), some (.inl x)]) (st' := [.inr (.inr (.inl (76, 277)))]) (m' := (f, l)) rfl rfl (fl_bo rfl) rfl ?_
                  refine fl_Tq.stp (pc' := 178) (lv' := [some (.inr (.inr (.inl (76, 277)))), some (.inl x)]) (st' := [.inr (.inr (.inl (79, 280)))]) (m' := (f, l)) rfl rfl (fl_bo rfl) rfl ?_
                  refine fl_Tq.cB (c := (22 : Int32)) rfl (by decide +kernel) (fl_bo rfl) ?_
                  refine fl_Tq.ldV (p := 280) (τ := 79) (n := 29780) (z := (0, 0, 0)) (k := 22) (v := f 280 22) rfl (fl_bo rfl) rfl (by decide +kernel) (by decide) rfl ?_
                  refine fl_Tq.stp (pc' := 182) (lv' := [some (.inr (.inr (.inl (76, 277)))), some (.inl x)]) (st' := [.inr (.inr (.inl (76, 277))), .inl (f 280 22)]) (m' := (f, l)) rfl rfl (fl_bo rfl) rfl ?_
                  refine fl_Tq.cB (c := (28 : Int32)) rfl (by decide +kernel) (fl_bo rfl) ?_
                  refine fl_Tq.cal rfl rfl (fl_bo rfl) rfl ?_
                  refine t2_its (W := 28) (v := f 280 62) (by decide +kernel) (by decide) rfl ?_
                  show fl_Tq _ 227 187 [some (.inr (.inr (.inl (76, 277)))), some (.inl x)] [.inl (f 280 62), .inl (f 280 22)] (f, l) _
                  by_cases h17 : (f 280 62).toInt < (f 280 22).toInt
                  · refine fl_Tq.jf rfl (fl_bo rfl) (c2_le_f h17) rfl ?_
                    refine fl_Tq.cI (c := (1 : Int32)) rfl (by decide +kernel) (fl_bo rfl) ?_
                    refine fl_Tq.stp (pc' := 195) (lv' := [some (.inr (.inr (.inl (76, 277)))), some (.inl x)]) (st' := [.inl (1 : Int32)]) (m' := (f, l)) rfl rfl (fl_bo rfl) rfl ?_
                    refine fl_Tq.ret rfl rfl rfl ?_
                    unfold r_isSo_v at k
                    simp only [if_neg h1, if_neg h5, if_neg h8, if_neg h9, if_neg h11, if_neg h13, if_pos h15, if_neg h16, if_pos h17] at k
                    exact k
                  · refine fl_Tq.jt rfl (fl_bo rfl) (c2_le_t h17) rfl ?_
                    refine fl_Tq.cI (c := (0 : Int32)) rfl (by decide +kernel) (fl_bo rfl) ?_
                    refine fl_Tq.ret rfl rfl rfl ?_
                    unfold r_isSo_v at k
                    simp only [if_neg h1, if_neg h5, if_neg h8, if_neg h9, if_neg h11, if_neg h13, if_pos h15, if_neg h16, if_neg h17] at k
                    exact k
              · refine fl_Tq.jt rfl (fl_bo rfl) (c2_ne_t h15) rfl ?_
                refine fl_Tq.stp (pc' := 197) (lv' := [some (.inr (.inr (.inl (76, 277)))), some (.inl x)]) (st' := [.inr (.inr (.inl (76, 277)))]) (m' := (f, l)) rfl rfl (fl_bo rfl) rfl ?_
                refine fl_Tq.cB (c := (29 : Int32)) rfl (by decide +kernel) (fl_bo rfl) ?_
                refine fl_Tq.cal rfl rfl (fl_bo rfl) rfl ?_
                refine t2_its (W := 29) (v := f 280 63) (by decide +kernel) (by decide) rfl ?_
                show fl_Tq _ 227 202 [some (.inr (.inr (.inl (76, 277)))), some (.inl x)] [.inl (f 280 63)] (f, l) _
                by_cases h18 : (f 280 63).toInt = 0
                · refine fl_Tq.zf rfl (fl_bo rfl) (c1_ne_f h18) rfl ?_
                  refine fl_Tq.cI (c := (1 : Int32)) rfl (by decide +kernel) (fl_bo rfl) ?_
                  refine fl_Tq.stp (pc' := 210) (lv' := [some (.inr (.inr (.inl (76, 277)))), some (.inl x)]) (st' := [.inl (1 : Int32)]) (m' := (f, l)) rfl rfl (fl_bo rfl) rfl ?_
                  refine fl_Tq.ret rfl rfl rfl ?_
                  unfold r_isSo_v at k
                  simp only [if_neg h1, if_neg h5, if_neg h8, if_neg h9, if_neg h11, if_neg h13, if_neg h15, if_pos h18] at k
                  exact k
                · refine fl_Tq.zt rfl (fl_bo rfl) (c1_ne_t h18) rfl ?_
                  refine fl_Tq.cI (c := (0 : Int32)) rfl (by decide +kernel) (fl_bo rfl) ?_
                  refine fl_Tq.ret rfl rfl rfl ?_
                  unfold r_isSo_v at k
                  simp only [if_neg h1, if_neg h5, if_neg h8, if_neg h9, if_neg h11, if_neg h13, if_neg h15, if_neg h18] at k
                  exact k
noncomputable def r_is_v (f : t2_F) (x : Int32) : Int32 := if x.toInt = 0 then f 280 2 else (if x.toInt = 1 then f 280 3 else (if x.toInt = 2 then f 280 4 else (if x.toInt = 3 then r_pack_v f else (if x.toInt = 4 then f 280 5 else (if x.toInt = 5 then f 280 6 else (if x.toInt = 6 then f 280 7 else (if x.toInt = 7 then f 280 8 else (if x.toInt = 8 then f 280 9 else (if x.toInt = 9 then f 280 10 else (if x.toInt = 10 then f 280 11 else (if x.toInt = 11 then f 280 12 else (if x.toInt = 12 then f 280 19 else (if x.toInt = 13 then f 280 13 else (if x.toInt = 14 then r_actual_v f else (if x.toInt = 15 then f 280 17 else (-1000000000 : Int32))))))))))))))))
theorem r_is_q {L : Nat} {xs : Nat → Int32} {f : t2_F} {l : t2_L} {Q : Option fl_V → fl_M → Prop} {x : Int32} (hn : 0 ≤ (f 280 2).toInt ∧ (f 280 2).toInt ≤ 16) (hr : t2_RS f) (hk : ∀ C : Nat, (C : Int) < (f 280 2).toInt → t2_ck f C) (k : Q (some (.inl (r_is_v f x))) (f, l)) : fl_Tq (pw_P L xs) 268 0 (fl_args (am_mxl (pw_P L xs) 268) [.inr (.inr (.inl (76, 277))), .inl x]) [] (f, l) Q := by
  refine fl_Tq.stp (pc' := 1) (lv' := [some (.inr (.inr (.inl (76, 277)))), some (.inl x)]) (st' := [.inl x]) (m' := (f, l)) rfl rfl (fl_bo rfl) rfl ?_
  by_cases h1 : x.toInt = 0
  · refine fl_Tq.swI (k := 0) rfl (fl_bo rfl) h1 rfl rfl ?_
    refine fl_Tq.stp (pc' := 81) (lv' := [some (.inr (.inr (.inl (76, 277)))), some (.inl x)]) (st' := [.inr (.inr (.inl (76, 277)))]) (m' := (f, l)) rfl rfl (fl_bo rfl) rfl ?_
    refine fl_Tq.stp (pc' := 84) (lv' := [some (.inr (.inr (.inl (76, 277)))), some (.inl x)]) (st' := [.inr (.inr (.inl (79, 280)))]) (m' := (f, l)) rfl rfl (fl_bo rfl) rfl ?_
    refine fl_Tq.cI (c := (2 : Int32)) rfl (by decide +kernel) (fl_bo rfl) ?_
    refine fl_Tq.ldV (p := 280) (τ := 79) (n := 29780) (z := (0, 0, 0)) (k := 2) (v := f 280 2) rfl (fl_bo rfl) rfl (by decide +kernel) (by decide) rfl ?_
    refine fl_Tq.ret rfl rfl rfl ?_
    unfold r_is_v at k
    simp only [if_pos h1] at k
    exact k
  by_cases h2 : x.toInt = 1
  · refine fl_Tq.swI (k := 1) rfl (fl_bo rfl) h2 rfl rfl ?_
    refine fl_Tq.stp (pc' := 88) (lv' := [some (.inr (.inr (.inl (76, 277)))), some (.inl x)]) (st' := [.inr (.inr (.inl (76, 277)))]) (m' := (f, l)) rfl rfl (fl_bo rfl) rfl ?_
    refine fl_Tq.stp (pc' := 91) (lv' := [some (.inr (.inr (.inl (76, 277)))), some (.inl x)]) (st' := [.inr (.inr (.inl (79, 280)))]) (m' := (f, l)) rfl rfl (fl_bo rfl) rfl ?_
    refine fl_Tq.cI (c := (3 : Int32)) rfl (by decide +kernel) (fl_bo rfl) ?_
    refine fl_Tq.ldV (p := 280) (τ := 79) (n := 29780) (z := (0, 0, 0)) (k := 3) (v := f 280 3) rfl (fl_bo rfl) rfl (by decide +kernel) (by decide) rfl ?_
    refine fl_Tq.ret rfl rfl rfl ?_
    unfold r_is_v at k
    simp only [if_neg h1, if_pos h2] at k
    exact k
  by_cases h3 : x.toInt = 2
  · refine fl_Tq.swI (k := 2) rfl (fl_bo rfl) h3 rfl rfl ?_
    refine fl_Tq.stp (pc' := 95) (lv' := [some (.inr (.inr (.inl (76, 277)))), some (.inl x)]) (st' := [.inr (.inr (.inl (76, 277)))]) (m' := (f, l)) rfl rfl (fl_bo rfl) rfl ?_
    refine fl_Tq.stp (pc' := 98) (lv' := [some (.inr (.inr (.inl (76, 277)))), some (.inl x)]) (st' := [.inr (.inr (.inl (79, 280)))]) (m' := (f, l)) rfl rfl (fl_bo rfl) rfl ?_
    refine fl_Tq.cI (c := (4 : Int32)) rfl (by decide +kernel) (fl_bo rfl) ?_
    refine fl_Tq.ldV (p := 280) (τ := 79) (n := 29780) (z := (0, 0, 0)) (k := 4) (v := f 280 4) rfl (fl_bo rfl) rfl (by decide +kernel) (by decide) rfl ?_
    refine fl_Tq.ret rfl rfl rfl ?_
    unfold r_is_v at k
    simp only [if_neg h1, if_neg h2, if_pos h3] at k
    exact k
  by_cases h4 : x.toInt = 3
  · refine fl_Tq.swI (k := 3) rfl (fl_bo rfl) h4 rfl rfl ?_
    refine fl_Tq.stp (pc' := 102) (lv' := [some (.inr (.inr (.inl (76, 277)))), some (.inl x)]) (st' := [.inr (.inr (.inl (76, 277)))]) (m' := (f, l)) rfl rfl (fl_bo rfl) rfl ?_
    refine fl_Tq.cal rfl rfl (fl_bo rfl) rfl ?_
    refine r_pack_q hn hr hk ?_
    show fl_Tq _ 268 105 [some (.inr (.inr (.inl (76, 277)))), some (.inl x)] [.inl (r_pack_v f)] (f, l) _
    refine fl_Tq.ret rfl rfl rfl ?_
    unfold r_is_v at k
    simp only [if_neg h1, if_neg h2, if_neg h3, if_pos h4] at k
    exact k
  by_cases h5 : x.toInt = 4
  · refine fl_Tq.swI (k := 4) rfl (fl_bo rfl) h5 rfl rfl ?_
    refine fl_Tq.stp (pc' := 107) (lv' := [some (.inr (.inr (.inl (76, 277)))), some (.inl x)]) (st' := [.inr (.inr (.inl (76, 277)))]) (m' := (f, l)) rfl rfl (fl_bo rfl) rfl ?_
    refine fl_Tq.stp (pc' := 110) (lv' := [some (.inr (.inr (.inl (76, 277)))), some (.inl x)]) (st' := [.inr (.inr (.inl (79, 280)))]) (m' := (f, l)) rfl rfl (fl_bo rfl) rfl ?_
    refine fl_Tq.cI (c := (5 : Int32)) rfl (by decide +kernel) (fl_bo rfl) ?_
    refine fl_Tq.ldV (p := 280) (τ := 79) (n := 29780) (z := (0, 0, 0)) (k := 5) (v := f 280 5) rfl (fl_bo rfl) rfl (by decide +kernel) (by decide) rfl ?_
    refine fl_Tq.ret rfl rfl rfl ?_
    unfold r_is_v at k
    simp only [if_neg h1, if_neg h2, if_neg h3, if_neg h4, if_pos h5] at k
    exact k
  by_cases h6 : x.toInt = 5
  · refine fl_Tq.swI (k := 5) rfl (fl_bo rfl) h6 rfl rfl ?_
    refine fl_Tq.stp (pc' := 114) (lv' := [some (.inr (.inr (.inl (76, 277)))), some (.inl x)]) (st' := [.inr (.inr (.inl (76, 277)))]) (m' := (f, l)) rfl rfl (fl_bo rfl) rfl ?_
    refine fl_Tq.stp (pc' := 117) (lv' := [some (.inr (.inr (.inl (76, 277)))), some (.inl x)]) (st' := [.inr (.inr (.inl (79, 280)))]) (m' := (f, l)) rfl rfl (fl_bo rfl) rfl ?_
    refine fl_Tq.cB (c := (6 : Int32)) rfl (by decide +kernel) (fl_bo rfl) ?_
    refine fl_Tq.ldV (p := 280) (τ := 79) (n := 29780) (z := (0, 0, 0)) (k := 6) (v := f 280 6) rfl (fl_bo rfl) rfl (by decide +kernel) (by decide) rfl ?_
    refine fl_Tq.ret rfl rfl rfl ?_
    unfold r_is_v at k
    simp only [if_neg h1, if_neg h2, if_neg h3, if_neg h4, if_neg h5, if_pos h6] at k
    exact k
  by_cases h7 : x.toInt = 6
  · refine fl_Tq.swI (k := 6) rfl (fl_bo rfl) h7 rfl rfl ?_
    refine fl_Tq.stp (pc' := 122) (lv' := [some (.inr (.inr (.inl (76, 277)))), some (.inl x)]) (st' := [.inr (.inr (.inl (76, 277)))]) (m' := (f, l)) rfl rfl (fl_bo rfl) rfl ?_
    refine fl_Tq.stp (pc' := 125) (lv' := [some (.inr (.inr (.inl (76, 277)))), some (.inl x)]) (st' := [.inr (.inr (.inl (79, 280)))]) (m' := (f, l)) rfl rfl (fl_bo rfl) rfl ?_
    refine fl_Tq.cB (c := (7 : Int32)) rfl (by decide +kernel) (fl_bo rfl) ?_
    refine fl_Tq.ldV (p := 280) (τ := 79) (n := 29780) (z := (0, 0, 0)) (k := 7) (v := f 280 7) rfl (fl_bo rfl) rfl (by decide +kernel) (by decide) rfl ?_
    refine fl_Tq.ret rfl rfl rfl ?_
    unfold r_is_v at k
    simp only [if_neg h1, if_neg h2, if_neg h3, if_neg h4, if_neg h5, if_neg h6, if_pos h7] at k
    exact k
  by_cases h8 : x.toInt = 7
  · refine fl_Tq.swI (k := 7) rfl (fl_bo rfl) h8 rfl rfl ?_
    refine fl_Tq.stp (pc' := 130) (lv' := [some (.inr (.inr (.inl (76, 277)))), some (.inl x)]) (st' := [.inr (.inr (.inl (76, 277)))]) (m' := (f, l)) rfl rfl (fl_bo rfl) rfl ?_
    refine fl_Tq.stp (pc' := 133) (lv' := [some (.inr (.inr (.inl (76, 277)))), some (.inl x)]) (st' := [.inr (.inr (.inl (79, 280)))]) (m' := (f, l)) rfl rfl (fl_bo rfl) rfl ?_
    refine fl_Tq.cB (c := (8 : Int32)) rfl (by decide +kernel) (fl_bo rfl) ?_
    refine fl_Tq.ldV (p := 280) (τ := 79) (n := 29780) (z := (0, 0, 0)) (k := 8) (v := f 280 8) rfl (fl_bo rfl) rfl (by decide +kernel) (by decide) rfl ?_
    refine fl_Tq.ret rfl rfl rfl ?_
    unfold r_is_v at k
    simp only [if_neg h1, if_neg h2, if_neg h3, if_neg h4, if_neg h5, if_neg h6, if_neg h7, if_pos h8] at k
    exact k
  by_cases h9 : x.toInt = 8
  · refine fl_Tq.swI (k := 8) rfl (fl_bo rfl) h9 rfl rfl ?_
    refine fl_Tq.stp (pc' := 138) (lv' := [some (.inr (.inr (.inl (76, 277)))), some (.inl x)]) (st' := [.inr (.inr (.inl (76, 277)))]) (m' := (f, l)) rfl rfl (fl_bo rfl) rfl ?_
    refine fl_Tq.stp (pc' := 141) (lv' := [some (.inr (.inr (.inl (76, 277)))), some (.inl x)]) (st' := [.inr (.inr (.inl (79, 280)))]) (m' := (f, l)) rfl rfl (fl_bo rfl) rfl ?_
    refine fl_Tq.cB (c := (9 : Int32)) rfl (by decide +kernel) (fl_bo rfl) ?_
    refine fl_Tq.ldV (p := 280) (τ := 79) (n := 29780) (z := (0, 0, 0)) (k := 9) (v := f 280 9) rfl (fl_bo rfl) rfl (by decide +kernel) (by decide) rfl ?_
    refine fl_Tq.ret rfl rfl rfl ?_
    unfold r_is_v at k
    simp only [if_neg h1, if_neg h2, if_neg h3, if_neg h4, if_neg h5, if_neg h6, if_neg h7, if_neg h8, if_pos h9] at k
    exact k
  by_cases h10 : x.toInt = 9
  · refine fl_Tq.swI (k := 9) rfl (fl_bo rfl) h10 rfl rfl ?_
    refine fl_Tq.stp (pc' := 146) (lv' := [some (.inr (.inr (.inl (76, 277)))), some (.inl x)]) (st' := [.inr (.inr (.inl (76, 277)))]) (m' := (f, l)) rfl rfl (fl_bo rfl) rfl ?_
    refine fl_Tq.stp (pc' := 149) (lv' := [some (.inr (.inr (.inl (76, 277)))), some (.inl x)]) (st' := [.inr (.inr (.inl (79, 280)))]) (m' := (f, l)) rfl rfl (fl_bo rfl) rfl ?_
    refine fl_Tq.cB (c := (10 : Int32)) rfl (by decide +kernel) (fl_bo rfl) ?_
    refine fl_Tq.ldV (p := 280) (τ := 79) (n := 29780) (z := (0, 0, 0)) (k := 10) (v := f 280 10) rfl (fl_bo rfl) rfl (by decide +kernel) (by decide) rfl ?_
    refine fl_Tq.ret rfl rfl rfl ?_
    unfold r_is_v at k
    simp only [if_neg h1, if_neg h2, if_neg h3, if_neg h4, if_neg h5, if_neg h6, if_neg h7, if_neg h8, if_neg h9, if_pos h10] at k
    exact k
  by_cases h11 : x.toInt = 10
  · refine fl_Tq.swI (k := 10) rfl (fl_bo rfl) h11 rfl rfl ?_
    refine fl_Tq.stp (pc' := 154) (lv' := [some (.inr (.inr (.inl (76, 277)))), some (.inl x)]) (st' := [.inr (.inr (.inl (76, 277)))]) (m' := (f, l)) rfl rfl (fl_bo rfl) rfl ?_
    refine fl_Tq.stp (pc' := 157) (lv' := [some (.inr (.inr (.inl (76, 277)))), some (.inl x)]) (st' := [.inr (.inr (.inl (79, 280)))]) (m' := (f, l)) rfl rfl (fl_bo rfl) rfl ?_
    refine fl_Tq.cB (c := (11 : Int32)) rfl (by decide +kernel) (fl_bo rfl) ?_
    refine fl_Tq.ldV (p := 280) (τ := 79) (n := 29780) (z := (0, 0, 0)) (k := 11) (v := f 280 11) rfl (fl_bo rfl) rfl (by decide +kernel) (by decide) rfl ?_
    refine fl_Tq.ret rfl rfl rfl ?_
    unfold r_is_v at k
    simp only [if_neg h1, if_neg h2, if_neg h3, if_neg h4, if_neg h5, if_neg h6, if_neg h7, if_neg h8, if_neg h9, if_neg h10, if_pos h11] at k
    exact k
  by_cases h12 : x.toInt = 11
  · refine fl_Tq.swI (k := 11) rfl (fl_bo rfl) h12 rfl rfl ?_
    refine fl_Tq.stp (pc' := 162) (lv' := [some (.inr (.inr (.inl (76, 277)))), some (.inl x)]) (st' := [.inr (.inr (.inl (76, 277)))]) (m' := (f, l)) rfl rfl (fl_bo rfl) rfl ?_
    refine fl_Tq.stp (pc' := 165) (lv' := [some (.inr (.inr (.inl (76, 277)))), some (.inl x)]) (st' := [.inr (.inr (.inl (79, 280)))]) (m' := (f, l)) rfl rfl (fl_bo rfl) rfl ?_
    refine fl_Tq.cB (c := (12 : Int32)) rfl (by decide +kernel) (fl_bo rfl) ?_
    refine fl_Tq.ldV (p := 280) (τ := 79) (n := 29780) (z := (0, 0, 0)) (k := 12) (v := f 280 12) rfl (fl_bo rfl) rfl (by decide +kernel) (by decide) rfl ?_
    refine fl_Tq.ret rfl rfl rfl ?_
    unfold r_is_v at k
    simp only [if_neg h1, if_neg h2, if_neg h3, if_neg h4, if_neg h5, if_neg h6, if_neg h7, if_neg h8, if_neg h9, if_neg h10, if_neg h11, if_pos h12] at k
    exact k
  by_cases h13 : x.toInt = 12
  · refine fl_Tq.swI (k := 12) rfl (fl_bo rfl) h13 rfl rfl ?_
    refine fl_Tq.stp (pc' := 170) (lv' := [some (.inr (.inr (.inl (76, 277)))), some (.inl x)]) (st' := [.inr (.inr (.inl (76, 277)))]) (m' := (f, l)) rfl rfl (fl_bo rfl) rfl ?_
    refine fl_Tq.stp (pc' := 173) (lv' := [some (.inr (.inr (.inl (76, 277)))), some (.inl x)]) (st' := [.inr (.inr (.inl (79, 280)))]) (m' := (f, l)) rfl rfl (fl_bo rfl) rfl ?_
    refine fl_Tq.cB (c := (19 : Int32)) rfl (by decide +kernel) (fl_bo rfl) ?_
    refine fl_Tq.ldV (p := 280) (τ := 79) (n := 29780) (z := (0, 0, 0)) (k := 19) (v := f 280 19) rfl (fl_bo rfl) rfl (by decide +kernel) (by decide) rfl ?_
    refine fl_Tq.ret rfl rfl rfl ?_
    unfold r_is_v at k
    simp only [if_neg h1, if_neg h2, if_neg h3, if_neg h4, if_neg h5, if_neg h6, if_neg h7, if_neg h8, if_neg h9, if_neg h10, if_neg h11, if_neg h12, if_pos h13] at k
    exact k
  by_cases h14 : x.toInt = 13
  · refine fl_Tq.swI (k := 13) rfl (fl_bo rfl) h14 rfl rfl ?_
    refine fl_Tq.stp (pc' := 178) (lv' := [some (.inr (.inr (.inl (76, 277)))), some (.inl x)]) (st' := [.inr (.inr (.inl (76, 277)))]) (m' := (f, l)) rfl rfl (fl_bo rfl) rfl ?_
    refine fl_Tq.stp (pc' := 181) (lv' := [some (.inr (.inr (.inl (76, 277)))), some (.inl x)]) (st' := [.inr (.inr (.inl (79, 280)))]) (m' := (f, l)) rfl rfl (fl_bo rfl) rfl ?_
    refine fl_Tq.cB (c := (13 : Int32)) rfl (by decide +kernel) (fl_bo rfl) ?_
    refine fl_Tq.ldV (p := 280) (τ := 79) (n := 29780) (z := (0, 0, 0)) (k := 13) (v := f 280 13) rfl (fl_bo rfl) rfl (by decide +kernel) (by decide) rfl ?_
    refine fl_Tq.ret rfl rfl rfl ?_
    unfold r_is_v at k
    simp only [if_neg h1, if_neg h2, if_neg h3, if_neg h4, if_neg h5, if_neg h6, if_neg h7, if_neg h8, if_neg h9, if_neg h10, if_neg h11, if_neg h12, if_neg h13, if_pos h14] at k
    exact k
  by_cases h15 : x.toInt = 14
  · refine fl_Tq.swI (k := 14) rfl (fl_bo rfl) h15 rfl rfl ?_
    refine fl_Tq.stp (pc' := 186) (lv' := [some (.inr (.inr (.inl (76, 277)))), some (.inl x)]) (st' := [.inr (.inr (.inl (76, 277)))]) (m' := (f, l)) rfl rfl (fl_bo rfl) rfl ?_
    refine fl_Tq.cal rfl rfl (fl_bo rfl) rfl ?_
    refine r_actual_q  ?_
    show fl_Tq _ 268 189 [some (.inr (.inr (.inl (76, 277)))), some (.inl x)] [.inl (r_actual_v f)] (f, l) _
    refine fl_Tq.ret rfl rfl rfl ?_
    unfold r_is_v at k
    simp only [if_neg h1, if_neg h2, if_neg h3, if_neg h4, if_neg h5, if_neg h6, if_neg h7, if_neg h8, if_neg h9, if_neg h10, if_neg h11, if_neg h12, if_neg h13, if_neg h14, if_pos h15] at k
    exact k
  by_cases h16 : x.toInt = 15
  · refine fl_Tq.swI (k := 15) rfl (fl_bo rfl) h16 rfl rfl ?_
    refine fl_Tq.stp (pc' := 191) (lv' := [some (.inr (.inr (.inl (76, 277)))), some (.inl x)]) (st' := [.inr (.inr (.inl (76, 277)))]) (m' := (f, l)) rfl rfl (fl_bo rfl) rfl ?_
    refine fl_Tq.stp (pc' := 194) (lv' := [some (.inr (.inr (.inl (76, 277)))), some (.inl x)]) (st' := [.inr (.inr (.inl (79, 280)))]) (m' := (f, l)) rfl rfl (fl_bo rfl) rfl ?_
    refine fl_Tq.cB (c := (17 : Int32)) rfl (by decide +kernel) (fl_bo rfl) ?_
    refine fl_Tq.ldV (p := 280) (τ := 79) (n := 29780) (z := (0, 0, 0)) (k := 17) (v := f 280 17) rfl (fl_bo rfl) rfl (by decide +kernel) (by decide) rfl ?_
    refine fl_Tq.ret rfl rfl rfl ?_
    unfold r_is_v at k
    simp only [if_neg h1, if_neg h2, if_neg h3, if_neg h4, if_neg h5, if_neg h6, if_neg h7, if_neg h8, if_neg h9, if_neg h10, if_neg h11, if_neg h12, if_neg h13, if_neg h14, if_neg h15, if_pos h16] at k
    exact k
  refine fl_Tq.swD rfl (fl_bo rfl) (by omega) rfl ?_
  refine fl_Tq.stp (pc' := 201) (lv' := [some (.inr (.inr (.inl (76, 277)))), some (.inl x)]) (st' := [.inl (-1000000000 : Int32)]) (m' := (f, l)) rfl rfl (fl_bo rfl) rfl ?_
  refine fl_Tq.ret rfl rfl rfl ?_
  unfold r_is_v at k
  simp only [if_neg h1, if_neg h2, if_neg h3, if_neg h4, if_neg h5, if_neg h6, if_neg h7, if_neg h8, if_neg h9, if_neg h10, if_neg h11, if_neg h12, if_neg h13, if_neg h14, if_neg h15, if_neg h16] at k
  exact k
