noncomputable def r_partOf_v (f : t2_F) (c : Int32) (C : Nat) : Int32 := (((1000 : Int64) * ((f 280 (444 + 61 * C + 1)).toInt64)) / (((3600 : Int32) * (f 280 (444 + 61 * C + 0))).toInt64)).toInt32
theorem r_partOf_q {L : Nat} {xs : Nat → Int32} {f : t2_F} {l : t2_L} {Q : Option fl_V → fl_M → Prop} {c : Int32} {C : Nat} (hc : c.toInt = (C : Int)) (hC : C < 16) (hk : t2_ck f C) (k : Q (some (.inl (r_partOf_v f c C))) (f, l)) : fl_Tq (pw_P L xs) 197 0 (fl_args (am_mxl (pw_P L xs) 197) [.inr (.inr (.inl (76, 277))), .inl c]) [] (f, l) Q := by
  refine fl_Tq.stp (pc' := 1) (lv' := [some (.inr (.inr (.inl (76, 277)))), some (.inl c)]) (st' := [.inr (.inr (.inl (76, 277)))]) (m' := (f, l)) rfl rfl (fl_bo rfl) rfl ?_
  refine fl_Tq.stp (pc' := 2) (lv' := [some (.inr (.inr (.inl (76, 277)))), some (.inl c)]) (st' := [.inl c, .inr (.inr (.inl (76, 277)))]) (m' := (f, l)) rfl rfl (fl_bo rfl) rfl ?_
  refine fl_Tq.stp (pc' := 3) (lv' := [some (.inr (.inr (.inl (76, 277)))), some (.inl c)]) (st' := [.inr (.inr (.inl (76, 277))), .inl c, .inr (.inr (.inl (76, 277)))]) (m' := (f, l)) rfl rfl (fl_bo rfl) rfl ?_
  refine fl_Tq.stp (pc' := 4) (lv' := [some (.inr (.inr (.inl (76, 277)))), some (.inl c)]) (st' := [.inl c, .inr (.inr (.inl (76, 277))), .inl c, .inr (.inr (.inl (76, 277)))]) (m' := (f, l)) rfl rfl (fl_bo rfl) rfl ?_
  refine fl_Tq.cI (c := (1 : Int32)) rfl (by decide +kernel) (fl_bo rfl) ?_
  refine fl_Tq.cal rfl rfl (fl_bo rfl) rfl ?_
  refine t2_get (C := C) (W := 1) (v := f 280 (444 + 61 * C + 1)) hc (by decide +kernel) hC (by decide) rfl ?_
  show fl_Tq _ 197 8 [some (.inr (.inr (.inl (76, 277)))), some (.inl c)] [.inl (f 280 (444 + 61 * C + 1)), .inl c, .inr (.inr (.inl (76, 277)))] (f, l) _
  refine fl_Tq.cal rfl rfl (fl_bo rfl) rfl ?_
  refine fl_Tq.stp (pc' := 3) (lv' := [some (.inr (.inr (.inl (76, 277)))), some (.inl c), some (.inl (f 280 (444 + 61 * C + 1)))]) (st' := [.inr (.inl (1000 : Int64))]) (m' := (f, l)) rfl rfl (fl_bo rfl) rfl ?_
  refine fl_Tq.stp (pc' := 4) (lv' := [some (.inr (.inr (.inl (76, 277)))), some (.inl c), some (.inl (f 280 (444 + 61 * C + 1)))]) (st' := [.inl (f 280 (444 + 61 * C + 1)), .inr (.inl (1000 : Int64))]) (m' := (f, l)) rfl rfl (fl_bo rfl) rfl ?_
  refine fl_Tq.stp (pc' := 5) (lv' := [some (.inr (.inr (.inl (76, 277)))), some (.inl c), some (.inl (f 280 (444 + 61 * C + 1)))]) (st' := [.inr (.inl ((f 280 (444 + 61 * C + 1)).toInt64)), .inr (.inl (1000 : Int64))]) (m' := (f, l)) rfl rfl (fl_bo rfl) rfl ?_
  refine fl_Tq.stp (pc' := 6) (lv' := [some (.inr (.inr (.inl (76, 277)))), some (.inl c), some (.inl (f 280 (444 + 61 * C + 1)))]) (st' := [.inr (.inl ((1000 : Int64) * ((f 280 (444 + 61 * C + 1)).toInt64)))]) (m' := (f, l)) rfl rfl (fl_bo rfl) rfl ?_
  refine fl_Tq.stp (pc' := 7) (lv' := [some (.inr (.inr (.inl (76, 277)))), some (.inl c), some (.inl (f 280 (444 + 61 * C + 1)))]) (st' := [.inr (.inr (.inl (76, 277))), .inr (.inl ((1000 : Int64) * ((f 280 (444 + 61 * C + 1)).toInt64)))]) (m' := (f, l)) rfl rfl (fl_bo rfl) rfl ?_
  refine fl_Tq.stp (pc' := 8) (lv' := [some (.inr (.inr (.inl (76, 277)))), some (.inl c), some (.inl (f 280 (444 + 61 * C + 1)))]) (st' := [.inl c, .inr (.inr (.inl (76, 277))), .inr (.inl ((1000 : Int64) * ((f 280 (444 + 61 * C + 1)).toInt64)))]) (m' := (f, l)) rfl rfl (fl_bo rfl) rfl ?_
  refine fl_Tq.cal rfl rfl (fl_bo rfl) rfl ?_
  refine fl_Tq.cS (c := (3600 : Int32)) rfl (by decide +kernel) (fl_bo rfl) ?_
  refine fl_Tq.stp (pc' := 4) (lv' := [some (.inr (.inr (.inl (76, 277)))), some (.inl c)]) (st' := [.inr (.inr (.inl (76, 277))), .inl (3600 : Int32)]) (m' := (f, l)) rfl rfl (fl_bo rfl) rfl ?_
  refine fl_Tq.stp (pc' := 5) (lv' := [some (.inr (.inr (.inl (76, 277)))), some (.inl c)]) (st' := [.inl c, .inr (.inr (.inl (76, 277))), .inl (3600 : Int32)]) (m' := (f, l)) rfl rfl (fl_bo rfl) rfl ?_
  refine fl_Tq.cI (c := (0 : Int32)) rfl (by decide +kernel) (fl_bo rfl) ?_
  refine fl_Tq.cal rfl rfl (fl_bo rfl) rfl ?_
  refine t2_get (C := C) (W := 0) (v := f 280 (444 + 61 * C + 0)) hc (by decide +kernel) hC (by decide) rfl ?_
  show fl_Tq _ 195 9 [some (.inr (.inr (.inl (76, 277)))), some (.inl c)] [.inl (f 280 (444 + 61 * C + 0)), .inl (3600 : Int32)] (f, l) _
  refine fl_Tq.stp (pc' := 10) (lv' := [some (.inr (.inr (.inl (76, 277)))), some (.inl c)]) (st' := [.inl ((3600 : Int32) * (f 280 (444 + 61 * C + 0)))]) (m' := (f, l)) rfl rfl (fl_bo rfl) rfl ?_
  refine fl_Tq.ret rfl rfl rfl ?_
  show fl_Tq _ 196 11 [some (.inr (.inr (.inl (76, 277)))), some (.inl c), some (.inl (f 280 (444 + 61 * C + 1)))] [.inl ((3600 : Int32) * (f 280 (444 + 61 * C + 0))), .inr (.inl ((1000 : Int64) * ((f 280 (444 + 61 * C + 1)).toInt64)))] (f, l) _
  refine fl_Tq.stp (pc' := 12) (lv' := [some (.inr (.inr (.inl (76, 277)))), some (.inl c), some (.inl (f 280 (444 + 61 * C + 1)))]) (st' := [.inr (.inl (((3600 : Int32) * (f 280 (444 + 61 * C + 0))).toInt64)), .inr (.inl ((1000 : Int64) * ((f 280 (444 + 61 * C + 1)).toInt64)))]) (m' := (f, l)) rfl rfl (fl_bo rfl) rfl ?_
  refine fl_Tq.dvJ rfl (fl_bo rfl) (t2_nzf hk.1) ?_
  refine fl_Tq.stp (pc' := 14) (lv' := [some (.inr (.inr (.inl (76, 277)))), some (.inl c), some (.inl (f 280 (444 + 61 * C + 1)))]) (st' := [.inl ((((1000 : Int64) * ((f 280 (444 + 61 * C + 1)).toInt64)) / (((3600 : Int32) * (f 280 (444 + 61 * C + 0))).toInt64)).toInt32)]) (m' := (f, l)) rfl rfl (fl_bo rfl) rfl ?_
  refine fl_Tq.ret rfl rfl rfl ?_
  show fl_Tq _ 197 11 [some (.inr (.inr (.inl (76, 277)))), some (.inl c)] [.inl ((((1000 : Int64) * ((f 280 (444 + 61 * C + 1)).toInt64)) / (((3600 : Int32) * (f 280 (444 + 61 * C + 0))).toInt64)).toInt32)] (f, l) _
  exact fl_Tq.ret rfl rfl rfl k
noncomputable def r_calmVolts_v (f : t2_F) (c : Int32) (C : Nat) : Int32 := (t2_rb (r_partOf_v f c C)) + (f 280 (444 + 61 * C + 9))
theorem r_calmVolts_q {L : Nat} {xs : Nat → Int32} {f : t2_F} {l : t2_L} {Q : Option fl_V → fl_M → Prop} {c : Int32} {C : Nat} (hc : c.toInt = (C : Int)) (hC : C < 16) (hr : t2_RS f) (hk : t2_ck f C) (k : Q (some (.inl (r_calmVolts_v f c C))) (f, l)) : fl_Tq (pw_P L xs) 200 0 (fl_args (am_mxl (pw_P L xs) 200) [.inr (.inr (.inl (76, 277))), .inl c]) [] (f, l) Q := by
  refine fl_Tq.stp (pc' := 1) (lv' := [some (.inr (.inr (.inl (76, 277)))), some (.inl c)]) (st' := [.inr (.inr (.inl (76, 277)))]) (m' := (f, l)) rfl rfl (fl_bo rfl) rfl ?_
  refine fl_Tq.stp (pc' := 2) (lv' := [some (.inr (.inr (.inl (76, 277)))), some (.inl c)]) (st' := [.inr (.inr (.inl (76, 277))), .inr (.inr (.inl (76, 277)))]) (m' := (f, l)) rfl rfl (fl_bo rfl) rfl ?_
  refine fl_Tq.stp (pc' := 3) (lv' := [some (.inr (.inr (.inl (76, 277)))), some (.inl c)]) (st' := [.inl c, .inr (.inr (.inl (76, 277))), .inr (.inr (.inl (76, 277)))]) (m' := (f, l)) rfl rfl (fl_bo rfl) rfl ?_
  refine fl_Tq.cal rfl rfl (fl_bo rfl) rfl ?_
  refine r_partOf_q hc hC hk ?_
  show fl_Tq _ 200 6 [some (.inr (.inr (.inl (76, 277)))), some (.inl c)] [.inl (r_partOf_v f c C), .inr (.inr (.inl (76, 277)))] (f, l) _
  refine fl_Tq.cal rfl rfl (fl_bo rfl) rfl ?_
  refine r_restOf_q hr (t2_ckp hk).1 (t2_ckp hk).2 ?_
  show fl_Tq _ 200 9 [some (.inr (.inr (.inl (76, 277)))), some (.inl c)] [.inl (t2_rb (r_partOf_v f c C))] (f, l) _
  refine fl_Tq.stp (pc' := 10) (lv' := [some (.inr (.inr (.inl (76, 277)))), some (.inl c)]) (st' := [.inr (.inr (.inl (76, 277))), .inl (t2_rb (r_partOf_v f c C))]) (m' := (f, l)) rfl rfl (fl_bo rfl) rfl ?_
  refine fl_Tq.stp (pc' := 11) (lv' := [some (.inr (.inr (.inl (76, 277)))), some (.inl c)]) (st' := [.inl c, .inr (.inr (.inl (76, 277))), .inl (t2_rb (r_partOf_v f c C))]) (m' := (f, l)) rfl rfl (fl_bo rfl) rfl ?_
  refine fl_Tq.cB (c := (9 : Int32)) rfl (by decide +kernel) (fl_bo rfl) ?_
  refine fl_Tq.cal rfl rfl (fl_bo rfl) rfl ?_
  refine t2_get (C := C) (W := 9) (v := f 280 (444 + 61 * C + 9)) hc (by decide +kernel) hC (by decide) rfl ?_
  show fl_Tq _ 200 16 [some (.inr (.inr (.inl (76, 277)))), some (.inl c)] [.inl (f 280 (444 + 61 * C + 9)), .inl (t2_rb (r_partOf_v f c C))] (f, l) _
  refine fl_Tq.stp (pc' := 17) (lv' := [some (.inr (.inr (.inl (76, 277)))), some (.inl c)]) (st' := [.inl ((t2_rb (r_partOf_v f c C)) + (f 280 (444 + 61 * C + 9)))]) (m' := (f, l)) rfl rfl (fl_bo rfl) rfl ?_
  exact fl_Tq.ret rfl rfl rfl k
noncomputable def r_voltsOf_v (f : t2_F) (c : Int32) (C : Nat) : Int32 := (r_calmVolts_v f c C) + (r_floor_v ((f 280 5) * (f 280 (444 + 61 * C + 2))) (1000 : Int32))
theorem r_voltsOf_q {L : Nat} {xs : Nat → Int32} {f : t2_F} {l : t2_L} {Q : Option fl_V → fl_M → Prop} {c : Int32} {C : Nat} (hc : c.toInt = (C : Int)) (hC : C < 16) (hr : t2_RS f) (hk : t2_ck f C) (k : Q (some (.inl (r_voltsOf_v f c C))) (f, l)) : fl_Tq (pw_P L xs) 201 0 (fl_args (am_mxl (pw_P L xs) 201) [.inr (.inr (.inl (76, 277))), .inl c]) [] (f, l) Q := by
  refine fl_Tq.stp (pc' := 1) (lv' := [some (.inr (.inr (.inl (76, 277)))), some (.inl c)]) (st' := [.inr (.inr (.inl (76, 277)))]) (m' := (f, l)) rfl rfl (fl_bo rfl) rfl ?_
  refine fl_Tq.stp (pc' := 2) (lv' := [some (.inr (.inr (.inl (76, 277)))), some (.inl c)]) (st' := [.inl c, .inr (.inr (.inl (76, 277)))]) (m' := (f, l)) rfl rfl (fl_bo rfl) rfl ?_
  refine fl_Tq.cal rfl rfl (fl_bo rfl) rfl ?_
  refine r_calmVolts_q hc hC hr hk ?_
  show fl_Tq _ 201 5 [some (.inr (.inr (.inl (76, 277)))), some (.inl c)] [.inl (r_calmVolts_v f c C)] (f, l) _
  refine fl_Tq.stp (pc' := 6) (lv' := [some (.inr (.inr (.inl (76, 277)))), some (.inl c)]) (st' := [.inr (.inr (.inl (76, 277))), .inl (r_calmVolts_v f c C)]) (m' := (f, l)) rfl rfl (fl_bo rfl) rfl ?_
  refine fl_Tq.stp (pc' := 9) (lv' := [some (.inr (.inr (.inl (76, 277)))), some (.inl c)]) (st' := [.inr (.inr (.inl (79, 280))), .inl (r_calmVolts_v f c C)]) (m' := (f, l)) rfl rfl (fl_bo rfl) rfl ?_
  refine fl_Tq.cI (c := (5 : Int32)) rfl (by decide +kernel) (fl_bo rfl) ?_
  refine fl_Tq.ldV (p := 280) (τ := 79) (n := 29780) (z := (0, 0, 0)) (k := 5) (v := f 280 5) rfl (fl_bo rfl) rfl (by decide +kernel) (by decide) rfl ?_
  refine fl_Tq.stp (pc' := 12) (lv' := [some (.inr (.inr (.inl (76, 277)))), some (.inl c)]) (st' := [.inr (.inr (.inl (76, 277))), .inl (f 280 5), .inl (r_calmVolts_v f c C)]) (m' := (f, l)) rfl rfl (fl_bo rfl) rfl ?_
  refine fl_Tq.stp (pc' := 13) (lv' := [some (.inr (.inr (.inl (76, 277)))), some (.inl c)]) (st' := [.inl c, .inr (.inr (.inl (76, 277))), .inl (f 280 5), .inl (r_calmVolts_v f c C)]) (m' := (f, l)) rfl rfl (fl_bo rfl) rfl ?_
  refine fl_Tq.cI (c := (2 : Int32)) rfl (by decide +kernel) (fl_bo rfl) ?_
  refine fl_Tq.cal rfl rfl (fl_bo rfl) rfl ?_
  refine t2_get (C := C) (W := 2) (v := f 280 (444 + 61 * C + 2)) hc (by decide +kernel) hC (by decide) rfl ?_
  show fl_Tq _ 201 17 [some (.inr (.inr (.inl (76, 277)))), some (.inl c)] [.inl (f 280 (444 + 61 * C + 2)), .inl (f 280 5), .inl (r_calmVolts_v f c C)] (f, l) _
  refine fl_Tq.stp (pc' := 18) (lv' := [some (.inr (.inr (.inl (76, 277)))), some (.inl c)]) (st' := [.inl ((f 280 5) * (f 280 (444 + 61 * C + 2))), .inl (r_calmVolts_v f c C)]) (m' := (f, l)) rfl rfl (fl_bo rfl) rfl ?_
  refine fl_Tq.cS (c := (1000 : Int32)) rfl (by decide +kernel) (fl_bo rfl) ?_
  refine fl_Tq.cal rfl rfl (fl_bo rfl) rfl ?_
  refine r_floor_q (by decide +kernel) ?_
  show fl_Tq _ 201 24 [some (.inr (.inr (.inl (76, 277)))), some (.inl c)] [.inl (r_floor_v ((f 280 5) * (f 280 (444 + 61 * C + 2))) (1000 : Int32)), .inl (r_calmVolts_v f c C)] (f, l) _
  refine fl_Tq.stp (pc' := 25) (lv' := [some (.inr (.inr (.inl (76, 277)))), some (.inl c)]) (st' := [.inl ((r_calmVolts_v f c C) + (r_floor_v ((f 280 5) * (f 280 (444 + 61 * C + 2))) (1000 : Int32)))]) (m' := (f, l)) rfl rfl (fl_bo rfl) rfl ?_
  exact fl_Tq.ret rfl rfl rfl k
noncomputable def r_packCalm_a4 (f : t2_F) : Nat → Int32
  | 0 => (0 : Int32)
  | k4 + 1 => (r_packCalm_a4 f k4) + (r_calmVolts_v f (Int32.ofNat k4) k4)
noncomputable def r_packCalm_v (f : t2_F) : Int32 := r_packCalm_a4 f ((f 280 2).toInt.toNat)
theorem r_packCalm_q {L : Nat} {xs : Nat → Int32} {f : t2_F} {l : t2_L} {Q : Option fl_V → fl_M → Prop}  (hn : 0 ≤ (f 280 2).toInt ∧ (f 280 2).toInt ≤ 16) (hr : t2_RS f) (hk : ∀ C : Nat, (C : Int) < (f 280 2).toInt → t2_ck f C) (k : Q (some (.inl (r_packCalm_v f))) (f, l)) : fl_Tq (pw_P L xs) 202 0 (fl_args (am_mxl (pw_P L xs) 202) [.inr (.inr (.inl (76, 277)))]) [] (f, l) Q := by
  refine fl_Tq.cI (c := (0 : Int32)) rfl (by decide +kernel) (fl_bo rfl) ?_
  refine fl_Tq.stp (pc' := 2) (lv' := [some (.inr (.inr (.inl (76, 277)))), some (.inl (0 : Int32)), none]) (st' := []) (m' := (f, l)) rfl rfl (fl_bo rfl) rfl ?_
  refine fl_Tq.cI (c := (0 : Int32)) rfl (by decide +kernel) (fl_bo rfl) ?_
  refine fl_Tq.stp (pc' := 4) (lv' := [some (.inr (.inr (.inl (76, 277)))), some (.inl (0 : Int32)), some (.inl (0 : Int32))]) (st' := []) (m' := (f, l)) rfl rfl (fl_bo rfl) rfl ?_
  have hs4 : ∀ k4 : Nat, k4 < (f 280 2).toInt.toNat → fl_Tq (pw_P L xs) 202 4 [some (.inr (.inr (.inl (76, 277)))), some (.inl (r_packCalm_a4 f (k4 + 1))), some (.inl (Int32.ofNat (k4 + 1)))] [] (f, l) Q → fl_Tq (pw_P L xs) 202 4 [some (.inr (.inr (.inl (76, 277)))), some (.inl (r_packCalm_a4 f k4)), some (.inl (Int32.ofNat k4))] [] (f, l) Q := by
    intro k4 hk4 hS
    refine fl_Tq.stp (pc' := 5) (lv' := [some (.inr (.inr (.inl (76, 277)))), some (.inl (r_packCalm_a4 f k4)), some (.inl (Int32.ofNat k4))]) (st' := [.inl (Int32.ofNat k4)]) (m' := (f, l)) rfl rfl (fl_bo rfl) rfl ?_
    refine fl_Tq.stp (pc' := 6) (lv' := [some (.inr (.inr (.inl (76, 277)))), some (.inl (r_packCalm_a4 f k4)), some (.inl (Int32.ofNat k4))]) (st' := [.inr (.inr (.inl (76, 277))), .inl (Int32.ofNat k4)]) (m' := (f, l)) rfl rfl (fl_bo rfl) rfl ?_
    refine fl_Tq.stp (pc' := 9) (lv' := [some (.inr (.inr (.inl (76, 277)))), some (.inl (r_packCalm_a4 f k4)), some (.inl (Int32.ofNat k4))]) (st' := [.inr (.inr (.inl (79, 280))), .inl (Int32.ofNat k4)]) (m' := (f, l)) rfl rfl (fl_bo rfl) rfl ?_
    refine fl_Tq.cI (c := (2 : Int32)) rfl (by decide +kernel) (fl_bo rfl) ?_
    refine fl_Tq.ldV (p := 280) (τ := 79) (n := 29780) (z := (0, 0, 0)) (k := 2) (v := f 280 2) rfl (fl_bo rfl) rfl (by decide +kernel) (by decide) rfl ?_
    refine fl_Tq.jf rfl (fl_bo rfl) (c2_ge_f (t2_lk hk4 (t2_nn hn.1))) rfl ?_
    refine fl_Tq.stp (pc' := 15) (lv' := [some (.inr (.inr (.inl (76, 277)))), some (.inl (r_packCalm_a4 f k4)), some (.inl (Int32.ofNat k4))]) (st' := [.inl (r_packCalm_a4 f k4)]) (m' := (f, l)) rfl rfl (fl_bo rfl) rfl ?_
    refine fl_Tq.stp (pc' := 16) (lv' := [some (.inr (.inr (.inl (76, 277)))), some (.inl (r_packCalm_a4 f k4)), some (.inl (Int32.ofNat k4))]) (st' := [.inr (.inr (.inl (76, 277))), .inl (r_packCalm_a4 f k4)]) (m' := (f, l)) rfl rfl (fl_bo rfl) rfl ?_
    refine fl_Tq.stp (pc' := 17) (lv' := [some (.inr (.inr (.inl (76, 277)))), some (.inl (r_packCalm_a4 f k4)), some (.inl (Int32.ofNat k4))]) (st' := [.inl (Int32.ofNat k4), .inr (.inr (.inl (76, 277))), .inl (r_packCalm_a4 f k4)]) (m' := (f, l)) rfl rfl (fl_bo rfl) rfl ?_
    refine fl_Tq.cal rfl rfl (fl_bo rfl) rfl ?_
    refine r_calmVolts_q (at_ofN (by omega)) (by omega) hr (hk k4 (by omega)) ?_
    show fl_Tq _ 202 20 [some (.inr (.inr (.inl (76, 277)))), some (.inl (r_packCalm_a4 f k4)), some (.inl (Int32.ofNat k4))] [.inl (r_calmVolts_v f (Int32.ofNat k4) k4), .inl (r_packCalm_a4 f k4)] (f, l) _
    refine fl_Tq.stp (pc' := 21) (lv' := [some (.inr (.inr (.inl (76, 277)))), some (.inl (r_packCalm_a4 f k4)), some (.inl (Int32.ofNat k4))]) (st' := [.inl ((r_packCalm_a4 f k4) + (r_calmVolts_v f (Int32.ofNat k4) k4))]) (m' := (f, l)) rfl rfl (fl_bo rfl) rfl ?_
    refine fl_Tq.stp (pc' := 22) (lv' := [some (.inr (.inr (.inl (76, 277)))), some (.inl ((r_packCalm_a4 f k4) + (r_calmVolts_v f (Int32.ofNat k4) k4))), some (.inl (Int32.ofNat k4))]) (st' := []) (m' := (f, l)) rfl rfl (fl_bo rfl) rfl ?_
    refine fl_Tq.stp (pc' := 25) (lv' := [some (.inr (.inr (.inl (76, 277)))), some (.inl ((r_packCalm_a4 f k4) + (r_calmVolts_v f (Int32.ofNat k4) k4))), some (.inl ((Int32.ofNat k4) + (1 : Int32)))]) (st' := []) (m' := (f, l)) rfl rfl (fl_bo rfl) rfl ?_
    refine fl_Tq.stp (pc' := 4) (lv' := [some (.inr (.inr (.inl (76, 277)))), some (.inl ((r_packCalm_a4 f k4) + (r_calmVolts_v f (Int32.ofNat k4) k4))), some (.inl ((Int32.ofNat k4) + (1 : Int32)))]) (st' := []) (m' := (f, l)) rfl rfl (fl_bo rfl) rfl ?_
    have ea : r_packCalm_a4 f (k4 + 1) = (r_packCalm_a4 f k4) + (r_calmVolts_v f (Int32.ofNat k4) k4) := by
      show ((r_packCalm_a4 f k4) + (r_calmVolts_v f (Int32.ofNat k4) k4)) = _
      rfl
    rw [ea, ← t2_k1] at hS
    exact hS
  refine t2_for (S := fun k4 => fl_Tq (pw_P L xs) 202 4 [some (.inr (.inr (.inl (76, 277)))), some (.inl (r_packCalm_a4 f k4)), some (.inl (Int32.ofNat k4))] [] (f, l) Q) hs4 ?_
  show fl_Tq (pw_P L xs) 202 4 [some (.inr (.inr (.inl (76, 277)))), some (.inl (r_packCalm_a4 f ((f 280 2).toInt.toNat))), some (.inl (Int32.ofNat ((f 280 2).toInt.toNat)))] [] (f, l) _
  refine fl_Tq.stp (pc' := 5) (lv' := [some (.inr (.inr (.inl (76, 277)))), some (.inl (r_packCalm_a4 f ((f 280 2).toInt.toNat))), some (.inl (Int32.ofNat ((f 280 2).toInt.toNat)))]) (st' := [.inl (Int32.ofNat ((f 280 2).toInt.toNat))]) (m' := (f, l)) rfl rfl (fl_bo rfl) rfl ?_
  refine fl_Tq.stp (pc' := 6) (lv' := [some (.inr (.inr (.inl (76, 277)))), some (.inl (r_packCalm_a4 f ((f 280 2).toInt.toNat))), some (.inl (Int32.ofNat ((f 280 2).toInt.toNat)))]) (st' := [.inr (.inr (.inl (76, 277))), .inl (Int32.ofNat ((f 280 2).toInt.toNat))]) (m' := (f, l)) rfl rfl (fl_bo rfl) rfl ?_
  refine fl_Tq.stp (pc' := 9) (lv' := [some (.inr (.inr (.inl (76, 277)))), some (.inl (r_packCalm_a4 f ((f 280 2).toInt.toNat))), some (.inl (Int32.ofNat ((f 280 2).toInt.toNat)))]) (st' := [.inr (.inr (.inl (79, 280))), .inl (Int32.ofNat ((f 280 2).toInt.toNat))]) (m' := (f, l)) rfl rfl (fl_bo rfl) rfl ?_
  refine fl_Tq.cI (c := (2 : Int32)) rfl (by decide +kernel) (fl_bo rfl) ?_
  refine fl_Tq.ldV (p := 280) (τ := 79) (n := 29780) (z := (0, 0, 0)) (k := 2) (v := f 280 2) rfl (fl_bo rfl) rfl (by decide +kernel) (by decide) rfl ?_
  refine fl_Tq.jt rfl (fl_bo rfl) (c2_ge_t (t2_ln (t2_nn hn.1))) rfl ?_
  refine fl_Tq.stp (pc' := 29) (lv' := [some (.inr (.inr (.inl (76, 277)))), some (.inl (r_packCalm_a4 f ((f 280 2).toInt.toNat))), some (.inl (Int32.ofNat ((f 280 2).toInt.toNat)))]) (st' := [.inl (r_packCalm_a4 f ((f 280 2).toInt.toNat))]) (m' := (f, l)) rfl rfl (fl_bo rfl) rfl ?_
  exact fl_Tq.ret rfl rfl rfl k
noncomputable def r_pack_a4 (f : t2_F) : Nat → Int32
  | 0 => (0 : Int32)
  | k4 + 1 => (r_pack_a4 f k4) + (r_voltsOf_v f (Int32.ofNat k4) k4)
noncomputable def r_pack_v (f : t2_F) : Int32 := r_pack_a4 f ((f 280 2).toInt.toNat)
theorem r_pack_q {L : Nat} {xs : Nat → Int32} {f : t2_F} {l : t2_L} {Q : Option fl_V → fl_M → Prop}  (hn : 0 ≤ (f 280 2).toInt ∧ (f 280 2).toInt ≤ 16) (hr : t2_RS f) (hk : ∀ C : Nat, (C : Int) < (f 280 2).toInt → t2_ck f C) (k : Q (some (.inl (r_pack_v f))) (f, l)) : fl_Tq (pw_P L xs) 203 0 (fl_args (am_mxl (pw_P L xs) 203) [.inr (.inr (.inl (76, 277)))]) [] (f, l) Q := by
  refine fl_Tq.cI (c := (0 : Int32)) rfl (by decide +kernel) (fl_bo rfl) ?_
  refine fl_Tq.stp (pc' := 2) (lv' := [some (.inr (.inr (.inl (76, 277)))), some (.inl (0 : Int32)), none]) (st' := []) (m' := (f, l)) rfl rfl (fl_bo rfl) rfl ?_
  refine fl_Tq.cI (c := (0 : Int32)) rfl (by decide +kernel) (fl_bo rfl) ?_
  refine fl_Tq.stp (pc' := 4) (lv' := [some (.inr (.inr (.inl (76, 277)))), some (.inl (0 : Int32)), some (.inl (0 : Int32))]) (st' := []) (m' := (f, l)) rfl rfl (fl_bo rfl) rfl ?_
  have hs4 : ∀ k4 : Nat, k4 < (f 280 2).toInt.toNat → fl_Tq (pw_P L xs) 203 4 [some (.inr (.inr (.inl (76, 277)))), some (.inl (r_pack_a4 f (k4 + 1))), some (.inl (Int32.ofNat (k4 + 1)))] [] (f, l) Q → fl_Tq (pw_P L xs) 203 4 [some (.inr (.inr (.inl (76, 277)))), some (.inl (r_pack_a4 f k4)), some (.inl (Int32.ofNat k4))] [] (f, l) Q := by
    intro k4 hk4 hS
    refine fl_Tq.stp (pc' := 5) (lv' := [some (.inr (.inr (.inl (76, 277)))), some (.inl (r_pack_a4 f k4)), some (.inl (Int32.ofNat k4))]) (st' := [.inl (Int32.ofNat k4)]) (m' := (f, l)) rfl rfl (fl_bo rfl) rfl ?_
    refine fl_Tq.stp (pc' := 6) (lv' := [some (.inr (.inr (.inl (76, 277)))), some (.inl (r_pack_a4 f k4)), some (.inl (Int32.ofNat k4))]) (st' := [.inr (.inr (.inl (76, 277))), .inl (Int32.ofNat k4)]) (m' := (f, l)) rfl rfl (fl_bo rfl) rfl ?_
    refine fl_Tq.stp (pc' := 9) (lv' := [some (.inr (.inr (.inl (76, 277)))), some (.inl (r_pack_a4 f k4)), some (.inl (Int32.ofNat k4))]) (st' := [.inr (.inr (.inl (79, 280))), .inl (Int32.ofNat k4)]) (m' := (f, l)) rfl rfl (fl_bo rfl) rfl ?_
    refine fl_Tq.cI (c := (2 : Int32)) rfl (by decide +kernel) (fl_bo rfl) ?_
    refine fl_Tq.ldV (p := 280) (τ := 79) (n := 29780) (z := (0, 0, 0)) (k := 2) (v := f 280 2) rfl (fl_bo rfl) rfl (by decide +kernel) (by decide) rfl ?_
    refine fl_Tq.jf rfl (fl_bo rfl) (c2_ge_f (t2_lk hk4 (t2_nn hn.1))) rfl ?_
    refine fl_Tq.stp (pc' := 15) (lv' := [some (.inr (.inr (.inl (76, 277)))), some (.inl (r_pack_a4 f k4)), some (.inl (Int32.ofNat k4))]) (st' := [.inl (r_pack_a4 f k4)]) (m' := (f, l)) rfl rfl (fl_bo rfl) rfl ?_
    refine fl_Tq.stp (pc' := 16) (lv' := [some (.inr (.inr (.inl (76, 277)))), some (.inl (r_pack_a4 f k4)), some (.inl (Int32.ofNat k4))]) (st' := [.inr (.inr (.inl (76, 277))), .inl (r_pack_a4 f k4)]) (m' := (f, l)) rfl rfl (fl_bo rfl) rfl ?_
    refine fl_Tq.stp (pc' := 17) (lv' := [some (.inr (.inr (.inl (76, 277)))), some (.inl (r_pack_a4 f k4)), some (.inl (Int32.ofNat k4))]) (st' := [.inl (Int32.ofNat k4), .inr (.inr (.inl (76, 277))), .inl (r_pack_a4 f k4)]) (m' := (f, l)) rfl rfl (fl_bo rfl) rfl ?_
    refine fl_Tq.cal rfl rfl (fl_bo rfl) rfl ?_
    refine r_voltsOf_q (at_ofN (by omega)) (by omega) hr (hk k4 (by omega)) ?_
    show fl_Tq _ 203 20 [some (.inr (.inr (.inl (76, 277)))), some (.inl (r_pack_a4 f k4)), some (.inl (Int32.ofNat k4))] [.inl (r_voltsOf_v f (Int32.ofNat k4) k4), .inl (r_pack_a4 f k4)] (f, l) _
    refine fl_Tq.stp (pc' := 21) (lv' := [some (.inr (.inr (.inl (76, 277)))), some (.inl (r_pack_a4 f k4)), some (.inl (Int32.ofNat k4))]) (st' := [.inl ((r_pack_a4 f k4) + (r_voltsOf_v f (Int32.ofNat k4) k4))]) (m' := (f, l)) rfl rfl (fl_bo rfl) rfl ?_
    refine fl_Tq.stp (pc' := 22) (lv' := [some (.inr (.inr (.inl (76, 277)))), some (.inl ((r_pack_a4 f k4) + (r_voltsOf_v f (Int32.ofNat k4) k4))), some (.inl (Int32.ofNat k4))]) (st' := []) (m' := (f, l)) rfl rfl (fl_bo rfl) rfl ?_
    refine fl_Tq.stp (pc' := 25) (lv' := [some (.inr (.inr (.inl (76, 277)))), some (.inl ((r_pack_a4 f k4) + (r_voltsOf_v f (Int32.ofNat k4) k4))), some (.inl ((Int32.ofNat k4) + (1 : Int32)))]) (st' := []) (m' := (f, l)) rfl rfl (fl_bo rfl) rfl ?_
    refine fl_Tq.stp (pc' := 4) (lv' := [some (.inr (.inr (.inl (76, 277)))), some (.inl ((r_pack_a4 f k4) + (r_voltsOf_v f (Int32.ofNat k4) k4))), some (.inl ((Int32.ofNat k4) + (1 : Int32)))]) (st' := []) (m' := (f, l)) rfl rfl (fl_bo rfl) rfl ?_
    have ea : r_pack_a4 f (k4 + 1) = (r_pack_a4 f k4) + (r_voltsOf_v f (Int32.ofNat k4) k4) := by
      show ((r_pack_a4 f k4) + (r_voltsOf_v f (Int32.ofNat k4) k4)) = _
      rfl
    rw [ea, ← t2_k1] at hS
    exact hS
  refine t2_for (S := fun k4 => fl_Tq (pw_P L xs) 203 4 [some (.inr (.inr (.inl (76, 277)))), some (.inl (r_pack_a4 f k4)), some (.inl (Int32.ofNat k4))] [] (f, l) Q) hs4 ?_
  show fl_Tq (pw_P L xs) 203 4 [some (.inr (.inr (.inl (76, 277)))), some (.inl (r_pack_a4 f ((f 280 2).toInt.toNat))), some (.inl (Int32.ofNat ((f 280 2).toInt.toNat)))] [] (f, l) _
  refine fl_Tq.stp (pc' := 5) (lv' := [some (.inr (.inr (.inl (76, 277)))), some (.inl (r_pack_a4 f ((f 280 2).toInt.toNat))), some (.inl (Int32.ofNat ((f 280 2).toInt.toNat)))]) (st' := [.inl (Int32.ofNat ((f 280 2).toInt.toNat))]) (m' := (f, l)) rfl rfl (fl_bo rfl) rfl ?_
  refine fl_Tq.stp (pc' := 6) (lv' := [some (.inr (.inr (.inl (76, 277)))), some (.inl (r_pack_a4 f ((f 280 2).toInt.toNat))), some (.inl (Int32.ofNat ((f 280 2).toInt.toNat)))]) (st' := [.inr (.inr (.inl (76, 277))), .inl (Int32.ofNat ((f 280 2).toInt.toNat))]) (m' := (f, l)) rfl rfl (fl_bo rfl) rfl ?_
  refine fl_Tq.stp (pc' := 9) (lv' := [some (.inr (.inr (.inl (76, 277)))), some (.inl (r_pack_a4 f ((f 280 2).toInt.toNat))), some (.inl (Int32.ofNat ((f 280 2).toInt.toNat)))]) (st' := [.inr (.inr (.inl (79, 280))), .inl (Int32.ofNat ((f 280 2).toInt.toNat))]) (m' := (f, l)) rfl rfl (fl_bo rfl) rfl ?_
  refine fl_Tq.cI (c := (2 : Int32)) rfl (by decide +kernel) (fl_bo rfl) ?_
  refine fl_Tq.ldV (p := 280) (τ := 79) (n := 29780) (z := (0, 0, 0)) (k := 2) (v := f 280 2) rfl (fl_bo rfl) rfl (by decide +kernel) (by decide) rfl ?_
  refine fl_Tq.jt rfl (fl_bo rfl) (c2_ge_t (t2_ln (t2_nn hn.1))) rfl ?_
  refine fl_Tq.stp (pc' := 29) (lv' := [some (.inr (.inr (.inl (76, 277)))), some (.inl (r_pack_a4 f ((f 280 2).toInt.toNat))), some (.inl (Int32.ofNat ((f 280 2).toInt.toNat)))]) (st' := [.inl (r_pack_a4 f ((f 280 2).toInt.toNat))]) (m' := (f, l)) rfl rfl (fl_bo rfl) rfl ?_
  exact fl_Tq.ret rfl rfl rfl k
noncomputable def r_leastPart_a6 (f : t2_F) : Nat → Int32
  | 0 => (1000 : Int32)
  | k6 + 1 => r_lesser_v (r_leastPart_a6 f k6) (r_partOf_v f (Int32.ofNat k6) k6)
noncomputable def r_leastPart_v (f : t2_F) : Int32 := r_leastPart_a6 f ((f 280 2).toInt.toNat)
theorem r_leastPart_q {L : Nat} {xs : Nat → Int32} {f : t2_F} {l : t2_L} {Q : Option fl_V → fl_M → Prop}  (hn : 0 ≤ (f 280 2).toInt ∧ (f 280 2).toInt ≤ 16) (hk : ∀ C : Nat, (C : Int) < (f 280 2).toInt → t2_ck f C) (k : Q (some (.inl (r_leastPart_v f))) (f, l)) : fl_Tq (pw_P L xs) 204 0 (fl_args (am_mxl (pw_P L xs) 204) [.inr (.inr (.inl (76, 277)))]) [] (f, l) Q := by
  refine fl_Tq.cS (c := (1000 : Int32)) rfl (by decide +kernel) (fl_bo rfl) ?_
  refine fl_Tq.stp (pc' := 4) (lv' := [some (.inr (.inr (.inl (76, 277)))), some (.inl (1000 : Int32)), none]) (st' := []) (m' := (f, l)) rfl rfl (fl_bo rfl) rfl ?_
  refine fl_Tq.cI (c := (0 : Int32)) rfl (by decide +kernel) (fl_bo rfl) ?_
  refine fl_Tq.stp (pc' := 6) (lv' := [some (.inr (.inr (.inl (76, 277)))), some (.inl (1000 : Int32)), some (.inl (0 : Int32))]) (st' := []) (m' := (f, l)) rfl rfl (fl_bo rfl) rfl ?_
  have hs6 : ∀ k6 : Nat, k6 < (f 280 2).toInt.toNat → fl_Tq (pw_P L xs) 204 6 [some (.inr (.inr (.inl (76, 277)))), some (.inl (r_leastPart_a6 f (k6 + 1))), some (.inl (Int32.ofNat (k6 + 1)))] [] (f, l) Q → fl_Tq (pw_P L xs) 204 6 [some (.inr (.inr (.inl (76, 277)))), some (.inl (r_leastPart_a6 f k6)), some (.inl (Int32.ofNat k6))] [] (f, l) Q := by
    intro k6 hk6 hS
    refine fl_Tq.stp (pc' := 7) (lv' := [some (.inr (.inr (.inl (76, 277)))), some (.inl (r_leastPart_a6 f k6)), some (.inl (Int32.ofNat k6))]) (st' := [.inl (Int32.ofNat k6)]) (m' := (f, l)) rfl rfl (fl_bo rfl) rfl ?_
    refine fl_Tq.stp (pc' := 8) (lv' := [some (.inr (.inr (.inl (76, 277)))), some (.inl (r_leastPart_a6 f k6)), some (.inl (Int32.ofNat k6))]) (st' := [.inr (.inr (.inl (76, 277))), .inl (Int32.ofNat k6)]) (m' := (f, l)) rfl rfl (fl_bo rfl) rfl ?_
    refine fl_Tq.stp (pc' := 11) (lv' := [some (.inr (.inr (.inl (76, 277)))), some (.inl (r_leastPart_a6 f k6)), some (.inl (Int32.ofNat k6))]) (st' := [.inr (.inr (.inl (79, 280))), .inl (Int32.ofNat k6)]) (m' := (f, l)) rfl rfl (fl_bo rfl) rfl ?_
    refine fl_Tq.cI (c := (2 : Int32)) rfl (by decide +kernel) (fl_bo rfl) ?_
    refine fl_Tq.ldV (p := 280) (τ := 79) (n := 29780) (z := (0, 0, 0)) (k := 2) (v := f 280 2) rfl (fl_bo rfl) rfl (by decide +kernel) (by decide) rfl ?_
    refine fl_Tq.jf rfl (fl_bo rfl) (c2_ge_f (t2_lk hk6 (t2_nn hn.1))) rfl ?_
    refine fl_Tq.stp (pc' := 17) (lv' := [some (.inr (.inr (.inl (76, 277)))), some (.inl (r_leastPart_a6 f k6)), some (.inl (Int32.ofNat k6))]) (st' := [.inl (r_leastPart_a6 f k6)]) (m' := (f, l)) rfl rfl (fl_bo rfl) rfl ?_
    refine fl_Tq.stp (pc' := 18) (lv' := [some (.inr (.inr (.inl (76, 277)))), some (.inl (r_leastPart_a6 f k6)), some (.inl (Int32.ofNat k6))]) (st' := [.inr (.inr (.inl (76, 277))), .inl (r_leastPart_a6 f k6)]) (m' := (f, l)) rfl rfl (fl_bo rfl) rfl ?_
    refine fl_Tq.stp (pc' := 19) (lv' := [some (.inr (.inr (.inl (76, 277)))), some (.inl (r_leastPart_a6 f k6)), some (.inl (Int32.ofNat k6))]) (st' := [.inl (Int32.ofNat k6), .inr (.inr (.inl (76, 277))), .inl (r_leastPart_a6 f k6)]) (m' := (f, l)) rfl rfl (fl_bo rfl) rfl ?_
    refine fl_Tq.cal rfl rfl (fl_bo rfl) rfl ?_
    refine r_partOf_q (at_ofN (by omega)) (by omega) (hk k6 (by omega)) ?_
    show fl_Tq _ 204 22 [some (.inr (.inr (.inl (76, 277)))), some (.inl (r_leastPart_a6 f k6)), some (.inl (Int32.ofNat k6))] [.inl (r_partOf_v f (Int32.ofNat k6) k6), .inl (r_leastPart_a6 f k6)] (f, l) _
    refine fl_Tq.cal rfl rfl (fl_bo rfl) rfl ?_
    refine r_lesser_q  ?_
    show fl_Tq _ 204 25 [some (.inr (.inr (.inl (76, 277)))), some (.inl (r_leastPart_a6 f k6)), some (.inl (Int32.ofNat k6))] [.inl (r_lesser_v (r_leastPart_a6 f k6) (r_partOf_v f (Int32.ofNat k6) k6))] (f, l) _
    refine fl_Tq.stp (pc' := 26) (lv' := [some (.inr (.inr (.inl (76, 277)))), some (.inl (r_lesser_v (r_leastPart_a6 f k6) (r_partOf_v f (Int32.ofNat k6) k6))), some (.inl (Int32.ofNat k6))]) (st' := []) (m' := (f, l)) rfl rfl (fl_bo rfl) rfl ?_
    refine fl_Tq.stp (pc' := 29) (lv' := [some (.inr (.inr (.inl (76, 277)))), some (.inl (r_lesser_v (r_leastPart_a6 f k6) (r_partOf_v f (Int32.ofNat k6) k6))), some (.inl ((Int32.ofNat k6) + (1 : Int32)))]) (st' := []) (m' := (f, l)) rfl rfl (fl_bo rfl) rfl ?_
    refine fl_Tq.stp (pc' := 6) (lv' := [some (.inr (.inr (.inl (76, 277)))), some (.inl (r_lesser_v (r_leastPart_a6 f k6) (r_partOf_v f (Int32.ofNat k6) k6))), some (.inl ((Int32.ofNat k6) + (1 : Int32)))]) (st' := []) (m' := (f, l)) rfl rfl (fl_bo rfl) rfl ?_
    have ea : r_leastPart_a6 f (k6 + 1) = r_lesser_v (r_leastPart_a6 f k6) (r_partOf_v f (Int32.ofNat k6) k6) := by
      show (r_lesser_v (r_leastPart_a6 f k6) (r_partOf_v f (Int32.ofNat k6) k6)) = _
      rfl
    rw [ea, ← t2_k1] at hS
    exact hS
  refine t2_for (S := fun k6 => fl_Tq (pw_P L xs) 204 6 [some (.inr (.inr (.inl (76, 277)))), some (.inl (r_leastPart_a6 f k6)), some (.inl (Int32.ofNat k6))] [] (f, l) Q) hs6 ?_
  show fl_Tq (pw_P L xs) 204 6 [some (.inr (.inr (.inl (76, 277)))), some (.inl (r_leastPart_a6 f ((f 280 2).toInt.toNat))), some (.inl (Int32.ofNat ((f 280 2).toInt.toNat)))] [] (f, l) _
  refine fl_Tq.stp (pc' := 7) (lv' := [some (.inr (.inr (.inl (76, 277)))), some (.inl (r_leastPart_a6 f ((f 280 2).toInt.toNat))), some (.inl (Int32.ofNat ((f 280 2).toInt.toNat)))]) (st' := [.inl (Int32.ofNat ((f 280 2).toInt.toNat))]) (m' := (f, l)) rfl rfl (fl_bo rfl) rfl ?_
  refine fl_Tq.stp (pc' := 8) (lv' := [some (.inr (.inr (.inl (76, 277)))), some (.inl (r_leastPart_a6 f ((f 280 2).toInt.toNat))), some (.inl (Int32.ofNat ((f 280 2).toInt.toNat)))]) (st' := [.inr (.inr (.inl (76, 277))), .inl (Int32.ofNat ((f 280 2).toInt.toNat))]) (m' := (f, l)) rfl rfl (fl_bo rfl) rfl ?_
  refine fl_Tq.stp (pc' := 11) (lv' := [some (.inr (.inr (.inl (76, 277)))), some (.inl (r_leastPart_a6 f ((f 280 2).toInt.toNat))), some (.inl (Int32.ofNat ((f 280 2).toInt.toNat)))]) (st' := [.inr (.inr (.inl (79, 280))), .inl (Int32.ofNat ((f 280 2).toInt.toNat))]) (m' := (f, l)) rfl rfl (fl_bo rfl) rfl ?_
  refine fl_Tq.cI (c := (2 : Int32)) rfl (by decide +kernel) (fl_bo rfl) ?_
  refine fl_Tq.ldV (p := 280) (τ := 79) (n := 29780) (z := (0, 0, 0)) (k := 2) (v := f 280 2) rfl (fl_bo rfl) rfl (by decide +kernel) (by decide) rfl ?_
  refine fl_Tq.jt rfl (fl_bo rfl) (c2_ge_t (t2_ln (t2_nn hn.1))) rfl ?_
  refine fl_Tq.stp (pc' := 33) (lv' := [some (.inr (.inr (.inl (76, 277)))), some (.inl (r_leastPart_a6 f ((f 280 2).toInt.toNat))), some (.inl (Int32.ofNat ((f 280 2).toInt.toNat)))]) (st' := [.inl (r_leastPart_a6 f ((f 280 2).toInt.toNat))]) (m' := (f, l)) rfl rfl (fl_bo rfl) rfl ?_
  exact fl_Tq.ret rfl rfl rfl k
noncomputable def r_ordered_j6_0 (f : t2_F)  : Int32 := if (f 280 3).toInt = 0 then (0 : Int32) else (if (f 280 3).toInt = (1 : Int32).toInt then (3 : Int32) else (5 : Int32))
noncomputable def r_ordered_v (f : t2_F) : Int32 := r_ordered_j6_0 f
theorem r_ordered_q {L : Nat} {xs : Nat → Int32} {f : t2_F} {l : t2_L} {Q : Option fl_V → fl_M → Prop}   (k : Q (some (.inl (r_ordered_v f))) (f, l)) : fl_Tq (pw_P L xs) 206 0 (fl_args (am_mxl (pw_P L xs) 206) [.inr (.inr (.inl (76, 277)))]) [] (f, l) Q := by
  refine fl_Tq.stp (pc' := 1) (lv' := [some (.inr (.inr (.inl (76, 277))))]) (st' := [.inr (.inr (.inl (76, 277)))]) (m' := (f, l)) rfl rfl (fl_bo rfl) rfl ?_
  refine fl_Tq.stp (pc' := 4) (lv' := [some (.inr (.inr (.inl (76, 277))))]) (st' := [.inr (.inr (.inl (79, 280)))]) (m' := (f, l)) rfl rfl (fl_bo rfl) rfl ?_
  refine fl_Tq.cI (c := (3 : Int32)) rfl (by decide +kernel) (fl_bo rfl) ?_
  refine fl_Tq.ldV (p := 280) (τ := 79) (n := 29780) (z := (0, 0, 0)) (k := 3) (v := f 280 3) rfl (fl_bo rfl) rfl (by decide +kernel) (by decide) rfl ?_
  have hj60 : fl_Tq (pw_P L xs) 206 28 [some (.inr (.inr (.inl (76, 277))))] [.inl (r_ordered_j6_0 f)] (f, l) Q → fl_Tq (pw_P L xs) 206 6 [some (.inr (.inr (.inl (76, 277))))] [.inl (f 280 3)] (f, l) Q := by
    intro hJ
    by_cases h1 : (f 280 3).toInt = 0
    · refine fl_Tq.zf rfl (fl_bo rfl) (c1_ne_f h1) rfl ?_
      refine fl_Tq.cI (c := (0 : Int32)) rfl (by decide +kernel) (fl_bo rfl) ?_
      refine fl_Tq.stp (pc' := 28) (lv' := [some (.inr (.inr (.inl (76, 277))))]) (st' := [.inl (0 : Int32)]) (m' := (f, l)) rfl rfl (fl_bo rfl) rfl ?_
      have e0 : (r_ordered_j6_0 f) = (0 : Int32) := by simp only [r_ordered_j6_0, if_pos h1]
      rw [e0] at hJ
      exact hJ
    · refine fl_Tq.zt rfl (fl_bo rfl) (c1_ne_t h1) rfl ?_
      refine fl_Tq.stp (pc' := 14) (lv' := [some (.inr (.inr (.inl (76, 277))))]) (st' := [.inr (.inr (.inl (76, 277)))]) (m' := (f, l)) rfl rfl (fl_bo rfl) rfl ?_
      refine fl_Tq.stp (pc' := 17) (lv' := [some (.inr (.inr (.inl (76, 277))))]) (st' := [.inr (.inr (.inl (79, 280)))]) (m' := (f, l)) rfl rfl (fl_bo rfl) rfl ?_
      refine fl_Tq.cI (c := (3 : Int32)) rfl (by decide +kernel) (fl_bo rfl) ?_
      refine fl_Tq.ldV (p := 280) (τ := 79) (n := 29780) (z := (0, 0, 0)) (k := 3) (v := f 280 3) rfl (fl_bo rfl) rfl (by decide +kernel) (by decide) rfl ?_
      refine fl_Tq.cI (c := (1 : Int32)) rfl (by decide +kernel) (fl_bo rfl) ?_
      by_cases h2 : (f 280 3).toInt = (1 : Int32).toInt
      · refine fl_Tq.jf rfl (fl_bo rfl) (c2_ne_f h2) rfl ?_
        refine fl_Tq.cI (c := (3 : Int32)) rfl (by decide +kernel) (fl_bo rfl) ?_
        refine fl_Tq.stp (pc' := 28) (lv' := [some (.inr (.inr (.inl (76, 277))))]) (st' := [.inl (3 : Int32)]) (m' := (f, l)) rfl rfl (fl_bo rfl) rfl ?_
        have e0 : (r_ordered_j6_0 f) = (3 : Int32) := by simp only [r_ordered_j6_0, if_neg h1, if_pos h2]
        rw [e0] at hJ
        exact hJ
      · refine fl_Tq.jt rfl (fl_bo rfl) (c2_ne_t h2) rfl ?_
        refine fl_Tq.cI (c := (5 : Int32)) rfl (by decide +kernel) (fl_bo rfl) ?_
        have e0 : (r_ordered_j6_0 f) = (5 : Int32) := by simp only [r_ordered_j6_0, if_neg h1, if_neg h2]
        rw [e0] at hJ
        exact hJ
  refine hj60 ?_
  show fl_Tq _ 206 28 [some (.inr (.inr (.inl (76, 277))))] [.inl (r_ordered_j6_0 f)] (f, l) _
  exact fl_Tq.ret rfl rfl rfl k
noncomputable def r_actual_a4 (f : t2_F) : Nat → Int32
  | 0 => (0 : Int32)
  | k4 + 1 => if (f 280 (64 + k4)).toInt = 0 then (if (r_has_v (r_ordered_v f) (Int32.ofNat k4)).toInt = 0 then r_actual_a4 f k4 else (r_actual_a4 f k4) ||| ((1 : Int32) <<< ((Int32.ofNat k4) &&& 31))) else (if (f 280 (64 + k4)).toInt = (1 : Int32).toInt then (r_actual_a4 f k4) ||| ((1 : Int32) <<< ((Int32.ofNat k4) &&& 31)) else r_actual_a4 f k4)
noncomputable def r_actual_v (f : t2_F) : Int32 := r_actual_a4 f 3
theorem r_actual_q {L : Nat} {xs : Nat → Int32} {f : t2_F} {l : t2_L} {Q : Option fl_V → fl_M → Prop}   (k : Q (some (.inl (r_actual_v f))) (f, l)) : fl_Tq (pw_P L xs) 207 0 (fl_args (am_mxl (pw_P L xs) 207) [.inr (.inr (.inl (76, 277)))]) [] (f, l) Q := by
  refine fl_Tq.cI (c := (0 : Int32)) rfl (by decide +kernel) (fl_bo rfl) ?_
  refine fl_Tq.stp (pc' := 2) (lv' := [some (.inr (.inr (.inl (76, 277)))), some (.inl (0 : Int32)), none]) (st' := []) (m' := (f, l)) rfl rfl (fl_bo rfl) rfl ?_
  refine fl_Tq.cI (c := (0 : Int32)) rfl (by decide +kernel) (fl_bo rfl) ?_
  refine fl_Tq.stp (pc' := 4) (lv' := [some (.inr (.inr (.inl (76, 277)))), some (.inl (0 : Int32)), some (.inl (0 : Int32))]) (st' := []) (m' := (f, l)) rfl rfl (fl_bo rfl) rfl ?_
  have hs4 : ∀ k4 : Nat, k4 < 3 → fl_Tq (pw_P L xs) 207 4 [some (.inr (.inr (.inl (76, 277)))), some (.inl (r_actual_a4 f (k4 + 1))), some (.inl (Int32.ofNat (k4 + 1)))] [] (f, l) Q → fl_Tq (pw_P L xs) 207 4 [some (.inr (.inr (.inl (76, 277)))), some (.inl (r_actual_a4 f k4)), some (.inl (Int32.ofNat k4))] [] (f, l) Q := by
    intro k4 hk4 hS
    refine fl_Tq.stp (pc' := 5) (lv' := [some (.inr (.inr (.inl (76, 277)))), some (.inl (r_actual_a4 f k4)), some (.inl (Int32.ofNat k4))]) (st' := [.inl (Int32.ofNat k4)]) (m' := (f, l)) rfl rfl (fl_bo rfl) rfl ?_
    refine fl_Tq.cI (c := (3 : Int32)) rfl (by decide +kernel) (fl_bo rfl) ?_
    refine fl_Tq.jf rfl (fl_bo rfl) (c2_ge_f (t2_lk hk4 (by decide +kernel))) rfl ?_
    refine fl_Tq.stp (pc' := 10) (lv' := [some (.inr (.inr (.inl (76, 277)))), some (.inl (r_actual_a4 f k4)), some (.inl (Int32.ofNat k4))]) (st' := [.inr (.inr (.inl (76, 277)))]) (m' := (f, l)) rfl rfl (fl_bo rfl) rfl ?_
    refine fl_Tq.stp (pc' := 13) (lv' := [some (.inr (.inr (.inl (76, 277)))), some (.inl (r_actual_a4 f k4)), some (.inl (Int32.ofNat k4))]) (st' := [.inr (.inr (.inl (79, 280)))]) (m' := (f, l)) rfl rfl (fl_bo rfl) rfl ?_
    refine fl_Tq.cB (c := (64 : Int32)) rfl (by decide +kernel) (fl_bo rfl) ?_
    refine fl_Tq.stp (pc' := 16) (lv' := [some (.inr (.inr (.inl (76, 277)))), some (.inl (r_actual_a4 f k4)), some (.inl (Int32.ofNat k4))]) (st' := [.inl (Int32.ofNat k4), .inl (64 : Int32), .inr (.inr (.inl (79, 280)))]) (m' := (f, l)) rfl rfl (fl_bo rfl) rfl ?_
    refine fl_Tq.stp (pc' := 17) (lv' := [some (.inr (.inr (.inl (76, 277)))), some (.inl (r_actual_a4 f k4)), some (.inl (Int32.ofNat k4))]) (st' := [.inl ((64 : Int32) + (Int32.ofNat k4)), .inr (.inr (.inl (79, 280)))]) (m' := (f, l)) rfl rfl (fl_bo rfl) rfl ?_
    refine fl_Tq.ldV (p := 280) (τ := 79) (n := 29780) (z := (0, 0, 0)) (k := 64 + k4) (v := f 280 (64 + k4)) rfl (fl_bo rfl) rfl (t2_ia (by decide +kernel) (at_ofN (by omega)) (by omega)) (by omega) rfl ?_
    have hj61 : fl_Tq (pw_P L xs) 207 54 [some (.inr (.inr (.inl (76, 277)))), some (.inl (if (f 280 (64 + k4)).toInt = 0 then (if (r_has_v (r_ordered_v f) (Int32.ofNat k4)).toInt = 0 then r_actual_a4 f k4 else (r_actual_a4 f k4) ||| ((1 : Int32) <<< ((Int32.ofNat k4) &&& 31))) else (if (f 280 (64 + k4)).toInt = (1 : Int32).toInt then (r_actual_a4 f k4) ||| ((1 : Int32) <<< ((Int32.ofNat k4) &&& 31)) else r_actual_a4 f k4))), some (.inl (Int32.ofNat k4))] [] (f, l) Q → fl_Tq (pw_P L xs) 207 18 [some (.inr (.inr (.inl (76, 277)))), some (.inl (r_actual_a4 f k4)), some (.inl (Int32.ofNat k4))] [.inl (f 280 (64 + k4))] (f, l) Q := by
      intro hJ
      by_cases h1 : (f 280 (64 + k4)).toInt = 0
      · refine fl_Tq.zf rfl (fl_bo rfl) (c1_ne_f h1) rfl ?_
        refine fl_Tq.stp (pc' := 22) (lv' := [some (.inr (.inr (.inl (76, 277)))), some (.inl (r_actual_a4 f k4)), some (.inl (Int32.ofNat k4))]) (st' := [.inr (.inr (.inl (76, 277)))]) (m' := (f, l)) rfl rfl (fl_bo rfl) rfl ?_
        refine fl_Tq.cal rfl rfl (fl_bo rfl) rfl ?_
        refine r_ordered_q  ?_
        show fl_Tq _ 207 25 [some (.inr (.inr (.inl (76, 277)))), some (.inl (r_actual_a4 f k4)), some (.inl (Int32.ofNat k4))] [.inl (r_ordered_v f)] (f, l) _
        refine fl_Tq.stp (pc' := 26) (lv' := [some (.inr (.inr (.inl (76, 277)))), some (.inl (r_actual_a4 f k4)), some (.inl (Int32.ofNat k4))]) (st' := [.inl (Int32.ofNat k4), .inl (r_ordered_v f)]) (m' := (f, l)) rfl rfl (fl_bo rfl) rfl ?_
        refine fl_Tq.cal rfl rfl (fl_bo rfl) rfl ?_
        refine r_has_q  ?_
        show fl_Tq _ 207 29 [some (.inr (.inr (.inl (76, 277)))), some (.inl (r_actual_a4 f k4)), some (.inl (Int32.ofNat k4))] [.inl (r_has_v (r_ordered_v f) (Int32.ofNat k4))] (f, l) _
        by_cases h2 : (r_has_v (r_ordered_v f) (Int32.ofNat k4)).toInt = 0
        · refine fl_Tq.zt rfl (fl_bo rfl) (c1_eq_t h2) rfl ?_
          have e0 : (if (f 280 (64 + k4)).toInt = 0 then (if (r_has_v (r_ordered_v f) (Int32.ofNat k4)).toInt = 0 then r_actual_a4 f k4 else (r_actual_a4 f k4) ||| ((1 : Int32) <<< ((Int32.ofNat k4) &&& 31))) else (if (f 280 (64 + k4)).toInt = (1 : Int32).toInt then (r_actual_a4 f k4) ||| ((1 : Int32) <<< ((Int32.ofNat k4) &&& 31)) else r_actual_a4 f k4)) = r_actual_a4 f k4 := by simp only [if_pos h1, if_pos h2]
          rw [e0] at hJ
          exact hJ
        · refine fl_Tq.zf rfl (fl_bo rfl) (c1_eq_f h2) rfl ?_
          refine fl_Tq.stp (pc' := 48) (lv' := [some (.inr (.inr (.inl (76, 277)))), some (.inl (r_actual_a4 f k4)), some (.inl (Int32.ofNat k4))]) (st' := []) (m' := (f, l)) rfl rfl (fl_bo rfl) rfl ?_
          refine fl_Tq.stp (pc' := 49) (lv' := [some (.inr (.inr (.inl (76, 277)))), some (.inl (r_actual_a4 f k4)), some (.inl (Int32.ofNat k4))]) (st' := [.inl (r_actual_a4 f k4)]) (m' := (f, l)) rfl rfl (fl_bo rfl) rfl ?_
          refine fl_Tq.cI (c := (1 : Int32)) rfl (by decide +kernel) (fl_bo rfl) ?_
          refine fl_Tq.stp (pc' := 51) (lv' := [some (.inr (.inr (.inl (76, 277)))), some (.inl (r_actual_a4 f k4)), some (.inl (Int32.ofNat k4))]) (st' := [.inl (Int32.ofNat k4), .inl (1 : Int32), .inl (r_actual_a4 f k4)]) (m' := (f, l)) rfl rfl (fl_bo rfl) rfl ?_
          refine fl_Tq.stp (pc' := 52) (lv' := [some (.inr (.inr (.inl (76, 277)))), some (.inl (r_actual_a4 f k4)), some (.inl (Int32.ofNat k4))]) (st' := [.inl ((1 : Int32) <<< ((Int32.ofNat k4) &&& 31)), .inl (r_actual_a4 f k4)]) (m' := (f, l)) rfl rfl (fl_bo rfl) rfl ?_
          refine fl_Tq.stp (pc' := 53) (lv' := [some (.inr (.inr (.inl (76, 277)))), some (.inl (r_actual_a4 f k4)), some (.inl (Int32.ofNat k4))]) (st' := [.inl ((r_actual_a4 f k4) ||| ((1 : Int32) <<< ((Int32.ofNat k4) &&& 31)))]) (m' := (f, l)) rfl rfl (fl_bo rfl) rfl ?_
          refine fl_Tq.stp (pc' := 54) (lv' := [some (.inr (.inr (.inl (76, 277)))), some (.inl ((r_actual_a4 f k4) ||| ((1 : Int32) <<< ((Int32.ofNat k4) &&& 31)))), some (.inl (Int32.ofNat k4))]) (st' := []) (m' := (f, l)) rfl rfl (fl_bo rfl) rfl ?_
          have e0 : (if (f 280 (64 + k4)).toInt = 0 then (if (r_has_v (r_ordered_v f) (Int32.ofNat k4)).toInt = 0 then r_actual_a4 f k4 else (r_actual_a4 f k4) ||| ((1 : Int32) <<< ((Int32.ofNat k4) &&& 31))) else (if (f 280 (64 + k4)).toInt = (1 : Int32).toInt then (r_actual_a4 f k4) ||| ((1 : Int32) <<< ((Int32.ofNat k4) &&& 31)) else r_actual_a4 f k4)) = (r_actual_a4 f k4) ||| ((1 : Int32) <<< ((Int32.ofNat k4) &&& 31)) := by simp only [if_pos h1, if_neg h2]
          rw [e0] at hJ
          exact hJ
      · refine fl_Tq.zt rfl (fl_bo rfl) (c1_ne_t h1) rfl ?_
        refine fl_Tq.stp (pc' := 36) (lv' := [some (.inr (.inr (.inl (76, 277)))), some (.inl (r_actual_a4 f k4)), some (.inl (Int32.ofNat k4))]) (st' := [.inr (.inr (.inl (76, 277)))]) (m' := (f, l)) rfl rfl (fl_bo rfl) rfl ?_
        refine fl_Tq.stp (pc' := 39) (lv' := [some (.inr (.inr (.inl (76, 277)))), some (.inl (r_actual_a4 f k4)), some (.inl (Int32.ofNat k4))]) (st' := [.inr (.inr (.inl (79, 280)))]) (m' := (f, l)) rfl rfl (fl_bo rfl) rfl ?_
        refine fl_Tq.cB (c := (64 : Int32)) rfl (by decide +kernel) (fl_bo rfl) ?_
        refine fl_Tq.stp (pc' := 42) (lv' := [some (.inr (.inr (.inl (76, 277)))), some (.inl (r_actual_a4 f k4)), some (.inl (Int32.ofNat k4))]) (st' := [.inl (Int32.ofNat k4), .inl (64 : Int32), .inr (.inr (.inl (79, 280)))]) (m' := (f, l)) rfl rfl (fl_bo rfl) rfl ?_
        refine fl_Tq.stp (pc' := 43) (lv' := [some (.inr (.inr (.inl (76, 277)))), some (.inl (r_actual_a4 f k4)), some (.inl (Int32.ofNat k4))]) (st' := [.inl ((64 : Int32) + (Int32.ofNat k4)), .inr (.inr (.inl (79, 280)))]) (m' := (f, l)) rfl rfl (fl_bo rfl) rfl ?_
        refine fl_Tq.ldV (p := 280) (τ := 79) (n := 29780) (z := (0, 0, 0)) (k := 64 + k4) (v := f 280 (64 + k4)) rfl (fl_bo rfl) rfl (t2_ia (by decide +kernel) (at_ofN (by omega)) (by omega)) (by omega) rfl ?_
        refine fl_Tq.cI (c := (1 : Int32)) rfl (by decide +kernel) (fl_bo rfl) ?_
        by_cases h3 : (f 280 (64 + k4)).toInt = (1 : Int32).toInt
        · refine fl_Tq.jf rfl (fl_bo rfl) (c2_ne_f h3) rfl ?_
          refine fl_Tq.stp (pc' := 49) (lv' := [some (.inr (.inr (.inl (76, 277)))), some (.inl (r_actual_a4 f k4)), some (.inl (Int32.ofNat k4))]) (st' := [.inl (r_actual_a4 f k4)]) (m' := (f, l)) rfl rfl (fl_bo rfl) rfl ?_
          refine fl_Tq.cI (c := (1 : Int32)) rfl (by decide +kernel) (fl_bo rfl) ?_
          refine fl_Tq.stp (pc' := 51) (lv' := [some (.inr (.inr (.inl (76, 277)))), some (.inl (r_actual_a4 f k4)), some (.inl (Int32.ofNat k4))]) (st' := [.inl (Int32.ofNat k4), .inl (1 : Int32), .inl (r_actual_a4 f k4)]) (m' := (f, l)) rfl rfl (fl_bo rfl) rfl ?_
          refine fl_Tq.stp (pc' := 52) (lv' := [some (.inr (.inr (.inl (76, 277)))), some (.inl (r_actual_a4 f k4)), some (.inl (Int32.ofNat k4))]) (st' := [.inl ((1 : Int32) <<< ((Int32.ofNat k4) &&& 31)), .inl (r_actual_a4 f k4)]) (m' := (f, l)) rfl rfl (fl_bo rfl) rfl ?_
          refine fl_Tq.stp (pc' := 53) (lv' := [some (.inr (.inr (.inl (76, 277)))), some (.inl (r_actual_a4 f k4)), some (.inl (Int32.ofNat k4))]) (st' := [.inl ((r_actual_a4 f k4) ||| ((1 : Int32) <<< ((Int32.ofNat k4) &&& 31)))]) (m' := (f, l)) rfl rfl (fl_bo rfl) rfl ?_
          refine fl_Tq.stp (pc' := 54) (lv' := [some (.inr (.inr (.inl (76, 277)))), some (.inl ((r_actual_a4 f k4) ||| ((1 : Int32) <<< ((Int32.ofNat k4) &&& 31)))), some (.inl (Int32.ofNat k4))]) (st' := []) (m' := (f, l)) rfl rfl (fl_bo rfl) rfl ?_
          have e0 : (if (f 280 (64 + k4)).toInt = 0 then (if (r_has_v (r_ordered_v f) (Int32.ofNat k4)).toInt = 0 then r_actual_a4 f k4 else (r_actual_a4 f k4) ||| ((1 : Int32) <<< ((Int32.ofNat k4) &&& 31))) else (if (f 280 (64 + k4)).toInt = (1 : Int32).toInt then (r_actual_a4 f k4) ||| ((1 : Int32) <<< ((Int32.ofNat k4) &&& 31)) else r_actual_a4 f k4)) = (r_actual_a4 f k4) ||| ((1 : Int32) <<< ((Int32.ofNat k4) &&& 31)) := by simp only [if_neg h1, if_pos h3]
          rw [e0] at hJ
          exact hJ
        · refine fl_Tq.jt rfl (fl_bo rfl) (c2_ne_t h3) rfl ?_
          have e0 : (if (f 280 (64 + k4)).toInt = 0 then (if (r_has_v (r_ordered_v f) (Int32.ofNat k4)).toInt = 0 then r_actual_a4 f k4 else (r_actual_a4 f k4) ||| ((1 : Int32) <<< ((Int32.ofNat k4) &&& 31))) else (if (f 280 (64 + k4)).toInt = (1 : Int32).toInt then (r_actual_a4 f k4) ||| ((1 : Int32) <<< ((Int32.ofNat k4) &&& 31)) else r_actual_a4 f k4)) = r_actual_a4 f k4 := by simp only [if_neg h1, if_neg h3]
          rw [e0] at hJ
          exact hJ
    refine hj61 ?_
    show fl_Tq _ 207 54 [some (.inr (.inr (.inl (76, 277)))), some (.inl (if (f 280 (64 + k4)).toInt = 0 then (if (r_has_v (r_ordered_v f) (Int32.ofNat k4)).toInt = 0 then r_actual_a4 f k4 else (r_actual_a4 f k4) ||| ((1 : Int32) <<< ((Int32.ofNat k4) &&& 31))) else (if (f 280 (64 + k4)).toInt = (1 : Int32).toInt then (r_actual_a4 f k4) ||| ((1 : Int32) <<< ((Int32.ofNat k4) &&& 31)) else r_actual_a4 f k4))), some (.inl (Int32.ofNat k4))] [] (f, l) _
    refine fl_Tq.stp (pc' := 57) (lv' := [some (.inr (.inr (.inl (76, 277)))), some (.inl (if (f 280 (64 + k4)).toInt = 0 then (if (r_has_v (r_ordered_v f) (Int32.ofNat k4)).toInt = 0 then r_actual_a4 f k4 else (r_actual_a4 f k4) ||| ((1 : Int32) <<< ((Int32.ofNat k4) &&& 31))) else (if (f 280 (64 + k4)).toInt = (1 : Int32).toInt then (r_actual_a4 f k4) ||| ((1 : Int32) <<< ((Int32.ofNat k4) &&& 31)) else r_actual_a4 f k4))), some (.inl ((Int32.ofNat k4) + (1 : Int32)))]) (st' := []) (m' := (f, l)) rfl rfl (fl_bo rfl) rfl ?_
    refine fl_Tq.stp (pc' := 4) (lv' := [some (.inr (.inr (.inl (76, 277)))), some (.inl (if (f 280 (64 + k4)).toInt = 0 then (if (r_has_v (r_ordered_v f) (Int32.ofNat k4)).toInt = 0 then r_actual_a4 f k4 else (r_actual_a4 f k4) ||| ((1 : Int32) <<< ((Int32.ofNat k4) &&& 31))) else (if (f 280 (64 + k4)).toInt = (1 : Int32).toInt then (r_actual_a4 f k4) ||| ((1 : Int32) <<< ((Int32.ofNat k4) &&& 31)) else r_actual_a4 f k4))), some (.inl ((Int32.ofNat k4) + (1 : Int32)))]) (st' := []) (m' := (f, l)) rfl rfl (fl_bo rfl) rfl ?_
    have ea : r_actual_a4 f (k4 + 1) = if (f 280 (64 + k4)).toInt = 0 then (if (r_has_v (r_ordered_v f) (Int32.ofNat k4)).toInt = 0 then r_actual_a4 f k4 else (r_actual_a4 f k4) ||| ((1 : Int32) <<< ((Int32.ofNat k4) &&& 31))) else (if (f 280 (64 + k4)).toInt = (1 : Int32).toInt then (r_actual_a4 f k4) ||| ((1 : Int32) <<< ((Int32.ofNat k4) &&& 31)) else r_actual_a4 f k4) := by
      show (if (f 280 (64 + k4)).toInt = 0 then (if (r_has_v (r_ordered_v f) (Int32.ofNat k4)).toInt = 0 then r_actual_a4 f k4 else (r_actual_a4 f k4) ||| ((1 : Int32) <<< ((Int32.ofNat k4) &&& 31))) else (if (f 280 (64 + k4)).toInt = (1 : Int32).toInt then (r_actual_a4 f k4) ||| ((1 : Int32) <<< ((Int32.ofNat k4) &&& 31)) else r_actual_a4 f k4)) = _
      rfl
    rw [ea, ← t2_k1] at hS
    exact hS
  refine t2_for (S := fun k4 => fl_Tq (pw_P L xs) 207 4 [some (.inr (.inr (.inl (76, 277)))), some (.inl (r_actual_a4 f k4)), some (.inl (Int32.ofNat k4))] [] (f, l) Q) hs4 ?_
  show fl_Tq (pw_P L xs) 207 4 [some (.inr (.inr (.inl (76, 277)))), some (.inl (r_actual_a4 f 3)), some (.inl (Int32.ofNat 3))] [] (f, l) _
  refine fl_Tq.stp (pc' := 5) (lv' := [some (.inr (.inr (.inl (76, 277)))), some (.inl (r_actual_a4 f 3)), some (.inl (Int32.ofNat 3))]) (st' := [.inl (Int32.ofNat 3)]) (m' := (f, l)) rfl rfl (fl_bo rfl) rfl ?_
  refine fl_Tq.cI (c := (3 : Int32)) rfl (by decide +kernel) (fl_bo rfl) ?_
  refine fl_Tq.jt rfl (fl_bo rfl) (c2_ge_t (t2_ln (by decide +kernel))) rfl ?_
  refine fl_Tq.stp (pc' := 61) (lv' := [some (.inr (.inr (.inl (76, 277)))), some (.inl (r_actual_a4 f 3)), some (.inl (Int32.ofNat 3))]) (st' := [.inl (r_actual_a4 f 3)]) (m' := (f, l)) rfl rfl (fl_bo rfl) rfl ?_
  exact fl_Tq.ret rfl rfl rfl k
noncomputable def r_isLive_v (f : t2_F) : Int32 := if ((r_actual_v f) &&& (5 : Int32)).toInt = (5 : Int32).toInt then (1 : Int32) else (0 : Int32)
theorem r_isLive_q {L : Nat} {xs : Nat → Int32} {f : t2_F} {l : t2_L} {Q : Option fl_V → fl_M → Prop}   (k : Q (some (.inl (r_isLive_v f))) (f, l)) : fl_Tq (pw_P L xs) 208 0 (fl_args (am_mxl (pw_P L xs) 208) [.inr (.inr (.inl (76, 277)))]) [] (f, l) Q := by
  refine fl_Tq.stp (pc' := 1) (lv' := [some (.inr (.inr (.inl (76, 277))))]) (st' := [.inr (.inr (.inl (76, 277)))]) (m' := (f, l)) rfl rfl (fl_bo rfl) rfl ?_
  refine fl_Tq.cal rfl rfl (fl_bo rfl) rfl ?_
  refine r_actual_q  ?_
  show fl_Tq _ 208 4 [some (.inr (.inr (.inl (76, 277))))] [.inl (r_actual_v f)] (f, l) _
  refine fl_Tq.cI (c := (5 : Int32)) rfl (by decide +kernel) (fl_bo rfl) ?_
  refine fl_Tq.stp (pc' := 6) (lv' := [some (.inr (.inr (.inl (76, 277))))]) (st' := [.inl ((r_actual_v f) &&& (5 : Int32))]) (m' := (f, l)) rfl rfl (fl_bo rfl) rfl ?_
  refine fl_Tq.cI (c := (5 : Int32)) rfl (by decide +kernel) (fl_bo rfl) ?_
  by_cases h1 : ((r_actual_v f) &&& (5 : Int32)).toInt = (5 : Int32).toInt
  · refine fl_Tq.jf rfl (fl_bo rfl) (c2_ne_f h1) rfl ?_
    refine fl_Tq.cI (c := (1 : Int32)) rfl (by decide +kernel) (fl_bo rfl) ?_
    refine fl_Tq.stp (pc' := 15) (lv' := [some (.inr (.inr (.inl (76, 277))))]) (st' := [.inl (1 : Int32)]) (m' := (f, l)) rfl rfl (fl_bo rfl) rfl ?_
    refine fl_Tq.ret rfl rfl rfl ?_
    unfold r_isLive_v at k
    simp only [if_pos h1] at k
    exact k
  · refine fl_Tq.jt rfl (fl_bo rfl) (c2_ne_t h1) rfl ?_
    refine fl_Tq.cI (c := (0 : Int32)) rfl (by decide +kernel) (fl_bo rfl) ?_
    refine fl_Tq.ret rfl rfl rfl ?_
    unfold r_isLive_v at k
    simp only [if_neg h1] at k
    exact k
noncomputable def r_limitBy_j8_0 (f : t2_F) (c : Int32) (C : Nat) (x : Int32) : Int32 := if x.toInt = 0 then (f 280 34) - (r_calmVolts_v f c C) else (r_calmVolts_v f c C) - (f 280 35)
noncomputable def r_limitBy_j63_0 (f : t2_F) (c : Int32) (C : Nat) (x : Int32) : Int32 := if x.toInt = 0 then (if (f 280 (444 + 61 * C + 3)).toInt < (f 280 37).toInt then (0 : Int32) else r_lesser_v ((r_limitBy_j8_0 f c C x) * (f 280 39)) ((500 : Int32) * ((f 280 36) - (f 280 (444 + 61 * C + 3))))) else r_lesser_v ((r_limitBy_j8_0 f c C x) * (f 280 39)) ((500 : Int32) * ((f 280 36) - (f 280 (444 + 61 * C + 3))))
noncomputable def r_limitBy_a84 (f : t2_F) (c : Int32) (C : Nat) (x : Int32) : Nat → Int32
  | 0 => (-1 : Int32)
  | k84 + 1 => if (f 280 (444 + 61 * C + 3)).toInt < (f 280 (67 + (2 * k84))).toInt then r_limitBy_a84 f c C x k84 else f 280 ((67 + (2 * k84)) + 1)
noncomputable def r_limitBy_j137_0 (f : t2_F) (c : Int32) (C : Nat) (x : Int32) : Int32 := if (r_limitBy_a84 f c C x ((f 280 17).toInt.toNat)).toInt = (-1 : Int32).toInt then r_limitBy_j63_0 f c C x else r_lesser_v (r_limitBy_j63_0 f c C x) (r_limitBy_a84 f c C x ((f 280 17).toInt.toNat))
noncomputable def r_limitBy_j151_0 (f : t2_F) (c : Int32) (C : Nat) (x : Int32) : Int32 := if (r_limitBy_j137_0 f c C x).toInt < 0 then (0 : Int32) else r_limitBy_j137_0 f c C x
noncomputable def r_limitBy_v (f : t2_F) (c : Int32) (C : Nat) (x : Int32) : Int32 := r_limitBy_j151_0 f c C x
theorem r_limitBy_q {L : Nat} {xs : Nat → Int32} {f : t2_F} {l : t2_L} {Q : Option fl_V → fl_M → Prop} {c : Int32} {C : Nat} {x : Int32} (hc : c.toInt = (C : Int)) (hC : C < 16) (hr : t2_RS f) (hk : t2_ck f C) (hz : 0 ≤ (f 280 17).toInt ∧ (f 280 17).toInt ≤ 6) (k : Q (some (.inl (r_limitBy_v f c C x))) (f, l)) : fl_Tq (pw_P L xs) 209 0 (fl_args (am_mxl (pw_P L xs) 209) [.inr (.inr (.inl (76, 277))), .inl c, .inl x]) [] (f, l) Q := by
  refine fl_Tq.stp (pc' := 1) (lv' := [some (.inr (.inr (.inl (76, 277)))), some (.inl c), some (.inl x), none, none, none, none, none]) (st' := [.inr (.inr (.inl (76, 277)))]) (m' := (f, l)) rfl rfl (fl_bo rfl) rfl ?_
  refine fl_Tq.stp (pc' := 2) (lv' := [some (.inr (.inr (.inl (76, 277)))), some (.inl c), some (.inl x), none, none, none, none, none]) (st' := [.inl c, .inr (.inr (.inl (76, 277)))]) (m' := (f, l)) rfl rfl (fl_bo rfl) rfl ?_
  refine fl_Tq.cI (c := (3 : Int32)) rfl (by decide +kernel) (fl_bo rfl) ?_
  refine fl_Tq.cal rfl rfl (fl_bo rfl) rfl ?_
  refine t2_get (C := C) (W := 3) (v := f 280 (444 + 61 * C + 3)) hc (by decide +kernel) hC (by decide) rfl ?_
  show fl_Tq _ 209 6 [some (.inr (.inr (.inl (76, 277)))), some (.inl c), some (.inl x), none, none, none, none, none] [.inl (f 280 (444 + 61 * C + 3))] (f, l) _
  refine fl_Tq.stp (pc' := 7) (lv' := [some (.inr (.inr (.inl (76, 277)))), some (.inl c), some (.inl x), some (.inl (f 280 (444 + 61 * C + 3))), none, none, none, none]) (st' := []) (m' := (f, l)) rfl rfl (fl_bo rfl) rfl ?_
  refine fl_Tq.stp (pc' := 8) (lv' := [some (.inr (.inr (.inl (76, 277)))), some (.inl c), some (.inl x), some (.inl (f 280 (444 + 61 * C + 3))), none, none, none, none]) (st' := [.inl x]) (m' := (f, l)) rfl rfl (fl_bo rfl) rfl ?_
  have hj62 : fl_Tq (pw_P L xs) 209 36 [some (.inr (.inr (.inl (76, 277)))), some (.inl c), some (.inl x), some (.inl (f 280 (444 + 61 * C + 3))), none, none, none, none] [.inl (r_limitBy_j8_0 f c C x)] (f, l) Q → fl_Tq (pw_P L xs) 209 8 [some (.inr (.inr (.inl (76, 277)))), some (.inl c), some (.inl x), some (.inl (f 280 (444 + 61 * C + 3))), none, none, none, none] [.inl x] (f, l) Q := by
    intro hJ
    by_cases h1 : x.toInt = 0
    · refine fl_Tq.zf rfl (fl_bo rfl) (c1_ne_f h1) rfl ?_
      refine fl_Tq.stp (pc' := 12) (lv' := [some (.inr (.inr (.inl (76, 277)))), some (.inl c), some (.inl x), some (.inl (f 280 (444 + 61 * C + 3))), none, none, none, none]) (st' := [.inr (.inr (.inl (76, 277)))]) (m' := (f, l)) rfl rfl (fl_bo rfl) rfl ?_
      refine fl_Tq.cI (c := (0 : Int32)) rfl (by decide +kernel) (fl_bo rfl) ?_
      refine fl_Tq.cal rfl rfl (fl_bo rfl) rfl ?_
      refine t2_its (W := 0) (v := f 280 34) (by decide +kernel) (by decide) rfl ?_
      show fl_Tq _ 209 16 [some (.inr (.inr (.inl (76, 277)))), some (.inl c), some (.inl x), some (.inl (f 280 (444 + 61 * C + 3))), none, none, none, none] [.inl (f 280 34)] (f, l) _
      refine fl_Tq.stp (pc' := 17) (lv' := [some (.inr (.inr (.inl (76, 277)))), some (.inl c), some (.inl x), some (.inl (f 280 (444 + 61 * C + 3))), none, none, none, none]) (st' := [.inr (.inr (.inl (76, 277))), .inl (f 280 34)]) (m' := (f, l)) rfl rfl (fl_bo rfl) rfl ?_
      refine fl_Tq.stp (pc' := 18) (lv' := [some (.inr (.inr (.inl (76, 277)))), some (.inl c), some (.inl x), some (.inl (f 280 (444 + 61 * C + 3))), none, none, none, none]) (st' := [.inl c, .inr (.inr (.inl (76, 277))), .inl (f 280 34)]) (m' := (f, l)) rfl rfl (fl_bo rfl) rfl ?_
      refine fl_Tq.cal rfl rfl (fl_bo rfl) rfl ?_
      refine r_calmVolts_q hc hC hr hk ?_
      show fl_Tq _ 209 21 [some (.inr (.inr (.inl (76, 277)))), some (.inl c), some (.inl x), some (.inl (f 280 (444 + 61 * C + 3))), none, none, none, none] [.inl (r_calmVolts_v f c C), .inl (f 280 34)] (f, l) _
      refine fl_Tq.stp (pc' := 22) (lv' := [some (.inr (.inr (.inl (76, 277)))), some (.inl c), some (.inl x), some (.inl (f 280 (444 + 61 * C + 3))), none, none, none, none]) (st' := [.inl ((f 280 34) - (r_calmVolts_v f c C))]) (m' := (f, l)) rfl rfl (fl_bo rfl) rfl ?_
      refine fl_Tq.stp (pc' := 36) (lv' := [some (.inr (.inr (.inl (76, 277)))), some (.inl c), some (.inl x), some (.inl (f 280 (444 + 61 * C + 3))), none, none, none, none]) (st' := [.inl ((f 280 34) - (r_calmVolts_v f c C))]) (m' := (f, l)) rfl rfl (fl_bo rfl) rfl ?_
      have e0 : (r_limitBy_j8_0 f c C x) = (f 280 34) - (r_calmVolts_v f c C) := by simp only [r_limitBy_j8_0, if_pos h1]
      rw [e0] at hJ
      exact hJ
    · refine fl_Tq.zt rfl (fl_bo rfl) (c1_ne_t h1) rfl ?_
      refine fl_Tq.stp (pc' := 26) (lv' := [some (.inr (.inr (.inl (76, 277)))), some (.inl c), some (.inl x), some (.inl (f 280 (444 + 61 * C + 3))), none, none, none, none]) (st' := [.inr (.inr (.inl (76, 277)))]) (m' := (f, l)) rfl rfl (fl_bo rfl) rfl ?_
      refine fl_Tq.stp (pc' := 27) (lv' := [some (.inr (.inr (.inl (76, 277)))), some (.inl c), some (.inl x), some (.inl (f 280 (444 + 61 * C + 3))), none, none, none, none]) (st' := [.inl c, .inr (.inr (.inl (76, 277)))]) (m' := (f, l)) rfl rfl (fl_bo rfl) rfl ?_
      refine fl_Tq.cal rfl rfl (fl_bo rfl) rfl ?_
      refine r_calmVolts_q hc hC hr hk ?_
      show fl_Tq _ 209 30 [some (.inr (.inr (.inl (76, 277)))), some (.inl c), some (.inl x), some (.inl (f 280 (444 + 61 * C + 3))), none, none, none, none] [.inl (r_calmVolts_v f c C)] (f, l) _
      refine fl_Tq.stp (pc' := 31) (lv' := [some (.inr (.inr (.inl (76, 277)))), some (.inl c), some (.inl x), some (.inl (f 280 (444 + 61 * C + 3))), none, none, none, none]) (st' := [.inr (.inr (.inl (76, 277))), .inl (r_calmVolts_v f c C)]) (m' := (f, l)) rfl rfl (fl_bo rfl) rfl ?_
      refine fl_Tq.cI (c := (1 : Int32)) rfl (by decide +kernel) (fl_bo rfl) ?_
      refine fl_Tq.cal rfl rfl (fl_bo rfl) rfl ?_
      refine t2_its (W := 1) (v := f 280 35) (by decide +kernel) (by decide) rfl ?_
      show fl_Tq _ 209 35 [some (.inr (.inr (.inl (76, 277)))), some (.inl c), some (.inl x), some (.inl (f 280 (444 + 61 * C + 3))), none, none, none, none] [.inl (f 280 35), .inl (r_calmVolts_v f c C)] (f, l) _
      refine fl_Tq.stp (pc' := 36) (lv' := [some (.inr (.inr (.inl (76, 277)))), some (.inl c), some (.inl x), some (.inl (f 280 (444 + 61 * C + 3))), none, none, none, none]) (st' := [.inl ((r_calmVolts_v f c C) - (f 280 35))]) (m' := (f, l)) rfl rfl (fl_bo rfl) rfl ?_
      have e0 : (r_limitBy_j8_0 f c C x) = (r_calmVolts_v f c C) - (f 280 35) := by simp only [r_limitBy_j8_0, if_neg h1]
      rw [e0] at hJ
      exact hJ
  refine hj62 ?_
  show fl_Tq _ 209 36 [some (.inr (.inr (.inl (76, 277)))), some (.inl c), some (.inl x), some (.inl (f 280 (444 + 61 * C + 3))), none, none, none, none] [.inl (r_limitBy_j8_0 f c C x)] (f, l) _
  refine fl_Tq.stp (pc' := 38) (lv' := [some (.inr (.inr (.inl (76, 277)))), some (.inl c), some (.inl x), some (.inl (f 280 (444 + 61 * C + 3))), some (.inl (r_limitBy_j8_0 f c C x)), none, none, none]) (st' := []) (m' := (f, l)) rfl rfl (fl_bo rfl) rfl ?_
  refine fl_Tq.stp (pc' := 40) (lv' := [some (.inr (.inr (.inl (76, 277)))), some (.inl c), some (.inl x), some (.inl (f 280 (444 + 61 * C + 3))), some (.inl (r_limitBy_j8_0 f c C x)), none, none, none]) (st' := [.inl (r_limitBy_j8_0 f c C x)]) (m' := (f, l)) rfl rfl (fl_bo rfl) rfl ?_
  refine fl_Tq.stp (pc' := 41) (lv' := [some (.inr (.inr (.inl (76, 277)))), some (.inl c), some (.inl x), some (.inl (f 280 (444 + 61 * C + 3))), some (.inl (r_limitBy_j8_0 f c C x)), none, none, none]) (st' := [.inr (.inr (.inl (76, 277))), .inl (r_limitBy_j8_0 f c C x)]) (m' := (f, l)) rfl rfl (fl_bo rfl) rfl ?_
  refine fl_Tq.cI (c := (5 : Int32)) rfl (by decide +kernel) (fl_bo rfl) ?_
  refine fl_Tq.cal rfl rfl (fl_bo rfl) rfl ?_
  refine t2_its (W := 5) (v := f 280 39) (by decide +kernel) (by decide) rfl ?_
  show fl_Tq _ 209 45 [some (.inr (.inr (.inl (76, 277)))), some (.inl c), some (.inl x), some (.inl (f 280 (444 + 61 * C + 3))), some (.inl (r_limitBy_j8_0 f c C x)), none, none, none] [.inl (f 280 39), .inl (r_limitBy_j8_0 f c C x)] (f, l) _
  refine fl_Tq.stp (pc' := 46) (lv' := [some (.inr (.inr (.inl (76, 277)))), some (.inl c), some (.inl x), some (.inl (f 280 (444 + 61 * C + 3))), some (.inl (r_limitBy_j8_0 f c C x)), none, none, none]) (st' := [.inl ((r_limitBy_j8_0 f c C x) * (f 280 39))]) (m' := (f, l)) rfl rfl (fl_bo rfl) rfl ?_
  refine fl_Tq.cS (c := (500 : Int32)) rfl (by decide +kernel) (fl_bo rfl) ?_
  refine fl_Tq.stp (pc' := 50) (lv' := [some (.inr (.inr (.inl (76, 277)))), some (.inl c), some (.inl x), some (.inl (f 280 (444 + 61 * C + 3))), some (.inl (r_limitBy_j8_0 f c C x)), none, none, none]) (st' := [.inr (.inr (.inl (76, 277))), .inl (500 : Int32), .inl ((r_limitBy_j8_0 f c C x) * (f 280 39))]) (m' := (f, l)) rfl rfl (fl_bo rfl) rfl ?_
  refine fl_Tq.cI (c := (2 : Int32)) rfl (by decide +kernel) (fl_bo rfl) ?_
  refine fl_Tq.cal rfl rfl (fl_bo rfl) rfl ?_
  refine t2_its (W := 2) (v := f 280 36) (by decide +kernel) (by decide) rfl ?_
  show fl_Tq _ 209 54 [some (.inr (.inr (.inl (76, 277)))), some (.inl c), some (.inl x), some (.inl (f 280 (444 + 61 * C + 3))), some (.inl (r_limitBy_j8_0 f c C x)), none, none, none] [.inl (f 280 36), .inl (500 : Int32), .inl ((r_limitBy_j8_0 f c C x) * (f 280 39))] (f, l) _
  refine fl_Tq.stp (pc' := 55) (lv' := [some (.inr (.inr (.inl (76, 277)))), some (.inl c), some (.inl x), some (.inl (f 280 (444 + 61 * C + 3))), some (.inl (r_limitBy_j8_0 f c C x)), none, none, none]) (st' := [.inl (f 280 (444 + 61 * C + 3)), .inl (f 280 36), .inl (500 : Int32), .inl ((r_limitBy_j8_0 f c C x) * (f 280 39))]) (m' := (f, l)) rfl rfl (fl_bo rfl) rfl ?_
  refine fl_Tq.stp (pc' := 56) (lv' := [some (.inr (.inr (.inl (76, 277)))), some (.inl c), some (.inl x), some (.inl (f 280 (444 + 61 * C + 3))), some (.inl (r_limitBy_j8_0 f c C x)), none, none, none]) (st' := [.inl ((f 280 36) - (f 280 (444 + 61 * C + 3))), .inl (500 : Int32), .inl ((r_limitBy_j8_0 f c C x) * (f 280 39))]) (m' := (f, l)) rfl rfl (fl_bo rfl) rfl ?_
  refine fl_Tq.stp (pc' := 57) (lv' := [some (.inr (.inr (.inl (76, 277)))), some (.inl c), some (.inl x), some (.inl (f 280 (444 + 61 * C + 3))), some (.inl (r_limitBy_j8_0 f c C x)), none, none, none]) (st' := [.inl ((500 : Int32) * ((f 280 36) - (f 280 (444 + 61 * C + 3)))), .inl ((r_limitBy_j8_0 f c C x) * (f 280 39))]) (m' := (f, l)) rfl rfl (fl_bo rfl) rfl ?_
  refine fl_Tq.cal rfl rfl (fl_bo rfl) rfl ?_
  refine r_lesser_q  ?_
  show fl_Tq _ 209 60 [some (.inr (.inr (.inl (76, 277)))), some (.inl c), some (.inl x), some (.inl (f 280 (444 + 61 * C + 3))), some (.inl (r_limitBy_j8_0 f c C x)), none, none, none] [.inl (r_lesser_v ((r_limitBy_j8_0 f c C x) * (f 280 39)) ((500 : Int32) * ((f 280 36) - (f 280 (444 + 61 * C + 3)))))] (f, l) _
  refine fl_Tq.stp (pc' := 62) (lv' := [some (.inr (.inr (.inl (76, 277)))), some (.inl c), some (.inl x), some (.inl (f 280 (444 + 61 * C + 3))), some (.inl (r_limitBy_j8_0 f c C x)), some (.inl (r_lesser_v ((r_limitBy_j8_0 f c C x) * (f 280 39)) ((500 : Int32) * ((f 280 36) - (f 280 (444 + 61 * C + 3)))))), none, none]) (st' := []) (m' := (f, l)) rfl rfl (fl_bo rfl) rfl ?_
  refine fl_Tq.stp (pc' := 63) (lv' := [some (.inr (.inr (.inl (76, 277)))), some (.inl c), some (.inl x), some (.inl (f 280 (444 + 61 * C + 3))), some (.inl (r_limitBy_j8_0 f c C x)), some (.inl (r_lesser_v ((r_limitBy_j8_0 f c C x) * (f 280 39)) ((500 : Int32) * ((f 280 36) - (f 280 (444 + 61 * C + 3)))))), none, none]) (st' := [.inl x]) (m' := (f, l)) rfl rfl (fl_bo rfl) rfl ?_
  have hj63 : fl_Tq (pw_P L xs) 209 78 [some (.inr (.inr (.inl (76, 277)))), some (.inl c), some (.inl x), some (.inl (f 280 (444 + 61 * C + 3))), some (.inl (r_limitBy_j8_0 f c C x)), some (.inl (r_limitBy_j63_0 f c C x)), none, none] [] (f, l) Q → fl_Tq (pw_P L xs) 209 63 [some (.inr (.inr (.inl (76, 277)))), some (.inl c), some (.inl x), some (.inl (f 280 (444 + 61 * C + 3))), some (.inl (r_limitBy_j8_0 f c C x)), some (.inl (r_lesser_v ((r_limitBy_j8_0 f c C x) * (f 280 39)) ((500 : Int32) * ((f 280 36) - (f 280 (444 + 61 * C + 3)))))), none, none] [.inl x] (f, l) Q := by
    intro hJ
    by_cases h2 : x.toInt = 0
    · refine fl_Tq.zf rfl (fl_bo rfl) (c1_ne_f h2) rfl ?_
      refine fl_Tq.stp (pc' := 67) (lv' := [some (.inr (.inr (.inl (76, 277)))), some (.inl c), some (.inl x), some (.inl (f 280 (444 + 61 * C + 3))), some (.inl (r_limitBy_j8_0 f c C x)), some (.inl (r_lesser_v ((r_limitBy_j8_0 f c C x) * (f 280 39)) ((500 : Int32) * ((f 280 36) - (f 280 (444 + 61 * C + 3)))))), none, none]) (st' := [.inl (f 280 (444 + 61 * C + 3))]) (m' := (f, l)) rfl rfl (fl_bo rfl) rfl ?_
      refine fl_Tq.stp (pc' := 68) (lv' := [some (.inr (.inr (.inl (76, 277)))), some (.inl c), some (.inl x), some (.inl (f 280 (444 + 61 * C + 3))), some (.inl (r_limitBy_j8_0 f c C x)), some (.inl (r_lesser_v ((r_limitBy_j8_0 f c C x) * (f 280 39)) ((500 : Int32) * ((f 280 36) - (f 280 (444 + 61 * C + 3)))))), none, none]) (st' := [.inr (.inr (.inl (76, 277))), .inl (f 280 (444 + 61 * C + 3))]) (m' := (f, l)) rfl rfl (fl_bo rfl) rfl ?_
      refine fl_Tq.cI (c := (3 : Int32)) rfl (by decide +kernel) (fl_bo rfl) ?_
      refine fl_Tq.cal rfl rfl (fl_bo rfl) rfl ?_
      refine t2_its (W := 3) (v := f 280 37) (by decide +kernel) (by decide) rfl ?_
      show fl_Tq _ 209 72 [some (.inr (.inr (.inl (76, 277)))), some (.inl c), some (.inl x), some (.inl (f 280 (444 + 61 * C + 3))), some (.inl (r_limitBy_j8_0 f c C x)), some (.inl (r_lesser_v ((r_limitBy_j8_0 f c C x) * (f 280 39)) ((500 : Int32) * ((f 280 36) - (f 280 (444 + 61 * C + 3)))))), none, none] [.inl (f 280 37), .inl (f 280 (444 + 61 * C + 3))] (f, l) _
      by_cases h3 : (f 280 (444 + 61 * C + 3)).toInt < (f 280 37).toInt
      · refine fl_Tq.jf rfl (fl_bo rfl) (c2_ge_f h3) rfl ?_
        refine fl_Tq.cI (c := (0 : Int32)) rfl (by decide +kernel) (fl_bo rfl) ?_
        refine fl_Tq.stp (pc' := 78) (lv' := [some (.inr (.inr (.inl (76, 277)))), some (.inl c), some (.inl x), some (.inl (f 280 (444 + 61 * C + 3))), some (.inl (r_limitBy_j8_0 f c C x)), some (.inl (0 : Int32)), none, none]) (st' := []) (m' := (f, l)) rfl rfl (fl_bo rfl) rfl ?_
        have e0 : (r_limitBy_j63_0 f c C x) = (0 : Int32) := by simp only [r_limitBy_j63_0, if_pos h2, if_pos h3]
        rw [e0] at hJ
        exact hJ
      · refine fl_Tq.jt rfl (fl_bo rfl) (c2_ge_t h3) rfl ?_
        have e0 : (r_limitBy_j63_0 f c C x) = r_lesser_v ((r_limitBy_j8_0 f c C x) * (f 280 39)) ((500 : Int32) * ((f 280 36) - (f 280 (444 + 61 * C + 3)))) := by simp only [r_limitBy_j63_0, if_pos h2, if_neg h3]
        rw [e0] at hJ
        exact hJ
    · refine fl_Tq.zt rfl (fl_bo rfl) (c1_ne_t h2) rfl ?_
      have e0 : (r_limitBy_j63_0 f c C x) = r_lesser_v ((r_limitBy_j8_0 f c C x) * (f 280 39)) ((500 : Int32) * ((f 280 36) - (f 280 (444 + 61 * C + 3)))) := by simp only [r_limitBy_j63_0, if_neg h2]
      rw [e0] at hJ
      exact hJ
  refine hj63 ?_
  show fl_Tq _ 209 78 [some (.inr (.inr (.inl (76, 277)))), some (.inl c), some (.inl x), some (.inl (f 280 (444 + 61 * C + 3))), some (.inl (r_limitBy_j8_0 f c C x)), some (.inl (r_limitBy_j63_0 f c C x)), none, none] [] (f, l) _
  refine fl_Tq.cI (c := (-1 : Int32)) rfl (by decide +kernel) (fl_bo rfl) ?_
  refine fl_Tq.stp (pc' := 81) (lv' := [some (.inr (.inr (.inl (76, 277)))), some (.inl c), some (.inl x), some (.inl (f 280 (444 + 61 * C + 3))), some (.inl (r_limitBy_j8_0 f c C x)), some (.inl (r_limitBy_j63_0 f c C x)), some (.inl (-1 : Int32)), none]) (st' := []) (m' := (f, l)) rfl rfl (fl_bo rfl) rfl ?_
  refine fl_Tq.cI (c := (0 : Int32)) rfl (by decide +kernel) (fl_bo rfl) ?_
  refine fl_Tq.stp (pc' := 84) (lv' := [some (.inr (.inr (.inl (76, 277)))), some (.inl c), some (.inl x), some (.inl (f 280 (444 + 61 * C + 3))), some (.inl (r_limitBy_j8_0 f c C x)), some (.inl (r_limitBy_j63_0 f c C x)), some (.inl (-1 : Int32)), some (.inl (0 : Int32))]) (st' := []) (m' := (f, l)) rfl rfl (fl_bo rfl) rfl ?_
  have hs84 : ∀ k84 : Nat, k84 < (f 280 17).toInt.toNat → fl_Tq (pw_P L xs) 209 84 [some (.inr (.inr (.inl (76, 277)))), some (.inl c), some (.inl x), some (.inl (f 280 (444 + 61 * C + 3))), some (.inl (r_limitBy_j8_0 f c C x)), some (.inl (r_limitBy_j63_0 f c C x)), some (.inl (r_limitBy_a84 f c C x (k84 + 1))), some (.inl (Int32.ofNat (k84 + 1)))] [] (f, l) Q → fl_Tq (pw_P L xs) 209 84 [some (.inr (.inr (.inl (76, 277)))), some (.inl c), some (.inl x), some (.inl (f 280 (444 + 61 * C + 3))), some (.inl (r_limitBy_j8_0 f c C x)), some (.inl (r_limitBy_j63_0 f c C x)), some (.inl (r_limitBy_a84 f c C x k84)), some (.inl (Int32.ofNat k84))] [] (f, l) Q := by
    intro k84 hk84 hS
    refine fl_Tq.stp (pc' := 86) (lv' := [some (.inr (.inr (.inl (76, 277)))), some (.inl c), some (.inl x), some (.inl (f 280 (444 + 61 * C + 3))), some (.inl (r_limitBy_j8_0 f c C x)), some (.inl (r_limitBy_j63_0 f c C x)), some (.inl (r_limitBy_a84 f c C x k84)), some (.inl (Int32.ofNat k84))]) (st' := [.inl (Int32.ofNat k84)]) (m' := (f, l)) rfl rfl (fl_bo rfl) rfl ?_
    refine fl_Tq.stp (pc' := 87) (lv' := [some (.inr (.inr (.inl (76, 277)))), some (.inl c), some (.inl x), some (.inl (f 280 (444 + 61 * C + 3))), some (.inl (r_limitBy_j8_0 f c C x)), some (.inl (r_limitBy_j63_0 f c C x)), some (.inl (r_limitBy_a84 f c C x k84)), some (.inl (Int32.ofNat k84))]) (st' := [.inr (.inr (.inl (76, 277))), .inl (Int32.ofNat k84)]) (m' := (f, l)) rfl rfl (fl_bo rfl) rfl ?_
    refine fl_Tq.stp (pc' := 90) (lv' := [some (.inr (.inr (.inl (76, 277)))), some (.inl c), some (.inl x), some (.inl (f 280 (444 + 61 * C + 3))), some (.inl (r_limitBy_j8_0 f c C x)), some (.inl (r_limitBy_j63_0 f c C x)), some (.inl (r_limitBy_a84 f c C x k84)), some (.inl (Int32.ofNat k84))]) (st' := [.inr (.inr (.inl (79, 280))), .inl (Int32.ofNat k84)]) (m' := (f, l)) rfl rfl (fl_bo rfl) rfl ?_
    refine fl_Tq.cB (c := (17 : Int32)) rfl (by decide +kernel) (fl_bo rfl) ?_
    refine fl_Tq.ldV (p := 280) (τ := 79) (n := 29780) (z := (0, 0, 0)) (k := 17) (v := f 280 17) rfl (fl_bo rfl) rfl (by decide +kernel) (by decide) rfl ?_
    refine fl_Tq.jf rfl (fl_bo rfl) (c2_ge_f (t2_lk hk84 (t2_nn hz.1))) rfl ?_
    refine fl_Tq.stp (pc' := 97) (lv' := [some (.inr (.inr (.inl (76, 277)))), some (.inl c), some (.inl x), some (.inl (f 280 (444 + 61 * C + 3))), some (.inl (r_limitBy_j8_0 f c C x)), some (.inl (r_limitBy_j63_0 f c C x)), some (.inl (r_limitBy_a84 f c C x k84)), some (.inl (Int32.ofNat k84))]) (st' := [.inl (f 280 (444 + 61 * C + 3))]) (m' := (f, l)) rfl rfl (fl_bo rfl) rfl ?_
    refine fl_Tq.stp (pc' := 98) (lv' := [some (.inr (.inr (.inl (76, 277)))), some (.inl c), some (.inl x), some (.inl (f 280 (444 + 61 * C + 3))), some (.inl (r_limitBy_j8_0 f c C x)), some (.inl (r_limitBy_j63_0 f c C x)), some (.inl (r_limitBy_a84 f c C x k84)), some (.inl (Int32.ofNat k84))]) (st' := [.inr (.inr (.inl (76, 277))), .inl (f 280 (444 + 61 * C + 3))]) (m' := (f, l)) rfl rfl (fl_bo rfl) rfl ?_
    refine fl_Tq.stp (pc' := 101) (lv' := [some (.inr (.inr (.inl (76, 277)))), some (.inl c), some (.inl x), some (.inl (f 280 (444 + 61 * C + 3))), some (.inl (r_limitBy_j8_0 f c C x)), some (.inl (r_limitBy_j63_0 f c C x)), some (.inl (r_limitBy_a84 f c C x k84)), some (.inl (Int32.ofNat k84))]) (st' := [.inr (.inr (.inl (79, 280))), .inl (f 280 (444 + 61 * C + 3))]) (m' := (f, l)) rfl rfl (fl_bo rfl) rfl ?_
    refine fl_Tq.cB (c := (67 : Int32)) rfl (by decide +kernel) (fl_bo rfl) ?_
    refine fl_Tq.cI (c := (2 : Int32)) rfl (by decide +kernel) (fl_bo rfl) ?_
    refine fl_Tq.stp (pc' := 106) (lv' := [some (.inr (.inr (.inl (76, 277)))), some (.inl c), some (.inl x), some (.inl (f 280 (444 + 61 * C + 3))), some (.inl (r_limitBy_j8_0 f c C x)), some (.inl (r_limitBy_j63_0 f c C x)), some (.inl (r_limitBy_a84 f c C x k84)), some (.inl (Int32.ofNat k84))]) (st' := [.inl (Int32.ofNat k84), .inl (2 : Int32), .inl (67 : Int32), .inr (.inr (.inl (79, 280))), .inl (f 280 (444 + 61 * C + 3))]) (m' := (f, l)) rfl rfl (fl_bo rfl) rfl ?_
    refine fl_Tq.stp (pc' := 107) (lv' := [some (.inr (.inr (.inl (76, 277)))), some (.inl c), some (.inl x), some (.inl (f 280 (444 + 61 * C + 3))), some (.inl (r_limitBy_j8_0 f c C x)), some (.inl (r_limitBy_j63_0 f c C x)), some (.inl (r_limitBy_a84 f c C x k84)), some (.inl (Int32.ofNat k84))]) (st' := [.inl ((2 : Int32) * (Int32.ofNat k84)), .inl (67 : Int32), .inr (.inr (.inl (79, 280))), .inl (f 280 (444 + 61 * C + 3))]) (m' := (f, l)) rfl rfl (fl_bo rfl) rfl ?_
    refine fl_Tq.stp (pc' := 108) (lv' := [some (.inr (.inr (.inl (76, 277)))), some (.inl c), some (.inl x), some (.inl (f 280 (444 + 61 * C + 3))), some (.inl (r_limitBy_j8_0 f c C x)), some (.inl (r_limitBy_j63_0 f c C x)), some (.inl (r_limitBy_a84 f c C x k84)), some (.inl (Int32.ofNat k84))]) (st' := [.inl ((67 : Int32) + ((2 : Int32) * (Int32.ofNat k84))), .inr (.inr (.inl (79, 280))), .inl (f 280 (444 + 61 * C + 3))]) (m' := (f, l)) rfl rfl (fl_bo rfl) rfl ?_
    refine fl_Tq.ldV (p := 280) (τ := 79) (n := 29780) (z := (0, 0, 0)) (k := 67 + (2 * k84)) (v := f 280 (67 + (2 * k84))) rfl (fl_bo rfl) rfl (t2_ia (by decide +kernel) (t2_im (by decide +kernel) (at_ofN (by omega)) (by omega)) (by omega)) (by omega) rfl ?_
    have hj64 : fl_Tq (pw_P L xs) 209 128 [some (.inr (.inr (.inl (76, 277)))), some (.inl c), some (.inl x), some (.inl (f 280 (444 + 61 * C + 3))), some (.inl (r_limitBy_j8_0 f c C x)), some (.inl (r_limitBy_j63_0 f c C x)), some (.inl (if (f 280 (444 + 61 * C + 3)).toInt < (f 280 (67 + (2 * k84))).toInt then r_limitBy_a84 f c C x k84 else f 280 ((67 + (2 * k84)) + 1))), some (.inl (Int32.ofNat k84))] [] (f, l) Q → fl_Tq (pw_P L xs) 209 109 [some (.inr (.inr (.inl (76, 277)))), some (.inl c), some (.inl x), some (.inl (f 280 (444 + 61 * C + 3))), some (.inl (r_limitBy_j8_0 f c C x)), some (.inl (r_limitBy_j63_0 f c C x)), some (.inl (r_limitBy_a84 f c C x k84)), some (.inl (Int32.ofNat k84))] [.inl (f 280 (67 + (2 * k84))), .inl (f 280 (444 + 61 * C + 3))] (f, l) Q := by
      intro hJ
      by_cases h4 : (f 280 (444 + 61 * C + 3)).toInt < (f 280 (67 + (2 * k84))).toInt
      · refine fl_Tq.jt rfl (fl_bo rfl) (c2_lt_t h4) rfl ?_
        have e0 : (if (f 280 (444 + 61 * C + 3)).toInt < (f 280 (67 + (2 * k84))).toInt then r_limitBy_a84 f c C x k84 else f 280 ((67 + (2 * k84)) + 1)) = r_limitBy_a84 f c C x k84 := by simp only [if_pos h4]
        rw [e0] at hJ
        exact hJ
      · refine fl_Tq.jf rfl (fl_bo rfl) (c2_lt_f h4) rfl ?_
        refine fl_Tq.stp (pc' := 113) (lv' := [some (.inr (.inr (.inl (76, 277)))), some (.inl c), some (.inl x), some (.inl (f 280 (444 + 61 * C + 3))), some (.inl (r_limitBy_j8_0 f c C x)), some (.inl (r_limitBy_j63_0 f c C x)), some (.inl (r_limitBy_a84 f c C x k84)), some (.inl (Int32.ofNat k84))]) (st' := [.inr (.inr (.inl (76, 277)))]) (m' := (f, l)) rfl rfl (fl_bo rfl) rfl ?_
        refine fl_Tq.stp (pc' := 116) (lv' := [some (.inr (.inr (.inl (76, 277)))), some (.inl c), some (.inl x), some (.inl (f 280 (444 + 61 * C + 3))), some (.inl (r_limitBy_j8_0 f c C x)), some (.inl (r_limitBy_j63_0 f c C x)), some (.inl (r_limitBy_a84 f c C x k84)), some (.inl (Int32.ofNat k84))]) (st' := [.inr (.inr (.inl (79, 280)))]) (m' := (f, l)) rfl rfl (fl_bo rfl) rfl ?_
        refine fl_Tq.cB (c := (67 : Int32)) rfl (by decide +kernel) (fl_bo rfl) ?_
        refine fl_Tq.cI (c := (2 : Int32)) rfl (by decide +kernel) (fl_bo rfl) ?_
        refine fl_Tq.stp (pc' := 121) (lv' := [some (.inr (.inr (.inl (76, 277)))), some (.inl c), some (.inl x), some (.inl (f 280 (444 + 61 * C + 3))), some (.inl (r_limitBy_j8_0 f c C x)), some (.inl (r_limitBy_j63_0 f c C x)), some (.inl (r_limitBy_a84 f c C x k84)), some (.inl (Int32.ofNat k84))]) (st' := [.inl (Int32.ofNat k84), .inl (2 : Int32), .inl (67 : Int32), .inr (.inr (.inl (79, 280)))]) (m' := (f, l)) rfl rfl (fl_bo rfl) rfl ?_
        refine fl_Tq.stp (pc' := 122) (lv' := [some (.inr (.inr (.inl (76, 277)))), some (.inl c), some (.inl x), some (.inl (f 280 (444 + 61 * C + 3))), some (.inl (r_limitBy_j8_0 f c C x)), some (.inl (r_limitBy_j63_0 f c C x)), some (.inl (r_limitBy_a84 f c C x k84)), some (.inl (Int32.ofNat k84))]) (st' := [.inl ((2 : Int32) * (Int32.ofNat k84)), .inl (67 : Int32), .inr (.inr (.inl (79, 280)))]) (m' := (f, l)) rfl rfl (fl_bo rfl) rfl ?_
        refine fl_Tq.stp (pc' := 123) (lv' := [some (.inr (.inr (.inl (76, 277)))), some (.inl c), some (.inl x), some (.inl (f 280 (444 + 61 * C + 3))), some (.inl (r_limitBy_j8_0 f c C x)), some (.inl (r_limitBy_j63_0 f c C x)), some (.inl (r_limitBy_a84 f c C x k84)), some (.inl (Int32.ofNat k84))]) (st' := [.inl ((67 : Int32) + ((2 : Int32) * (Int32.ofNat k84))), .inr (.inr (.inl (79, 280)))]) (m' := (f, l)) rfl rfl (fl_bo rfl) rfl ?_
        refine fl_Tq.cI (c := (1 : Int32)) rfl (by decide +kernel) (fl_bo rfl) ?_
        refine fl_Tq.stp (pc' := 125) (lv' := [some (.inr (.inr (.inl (76, 277)))), some (.inl c), some (.inl x), some (.inl (f 280 (444 + 61 * C + 3))), some (.inl (r_limitBy_j8_0 f c C x)), some (.inl (r_limitBy_j63_0 f c C x)), some (.inl (r_limitBy_a84 f c C x k84)), some (.inl (Int32.ofNat k84))]) (st' := [.inl (((67 : Int32) + ((2 : Int32) * (Int32.ofNat k84))) + (1 : Int32)), .inr (.inr (.inl (79, 280)))]) (m' := (f, l)) rfl rfl (fl_bo rfl) rfl ?_
        refine fl_Tq.ldV (p := 280) (τ := 79) (n := 29780) (z := (0, 0, 0)) (k := (67 + (2 * k84)) + 1) (v := f 280 ((67 + (2 * k84)) + 1)) rfl (fl_bo rfl) rfl (t2_ia (t2_ia (by decide +kernel) (t2_im (by decide +kernel) (at_ofN (by omega)) (by omega)) (by omega)) (by decide +kernel) (by omega)) (by omega) rfl ?_
        refine fl_Tq.stp (pc' := 128) (lv' := [some (.inr (.inr (.inl (76, 277)))), some (.inl c), some (.inl x), some (.inl (f 280 (444 + 61 * C + 3))), some (.inl (r_limitBy_j8_0 f c C x)), some (.inl (r_limitBy_j63_0 f c C x)), some (.inl (f 280 ((67 + (2 * k84)) + 1))), some (.inl (Int32.ofNat k84))]) (st' := []) (m' := (f, l)) rfl rfl (fl_bo rfl) rfl ?_
        have e0 : (if (f 280 (444 + 61 * C + 3)).toInt < (f 280 (67 + (2 * k84))).toInt then r_limitBy_a84 f c C x k84 else f 280 ((67 + (2 * k84)) + 1)) = f 280 ((67 + (2 * k84)) + 1) := by simp only [if_neg h4]
        rw [e0] at hJ
        exact hJ
    refine hj64 ?_
    show fl_Tq _ 209 128 [some (.inr (.inr (.inl (76, 277)))), some (.inl c), some (.inl x), some (.inl (f 280 (444 + 61 * C + 3))), some (.inl (r_limitBy_j8_0 f c C x)), some (.inl (r_limitBy_j63_0 f c C x)), some (.inl (if (f 280 (444 + 61 * C + 3)).toInt < (f 280 (67 + (2 * k84))).toInt then r_limitBy_a84 f c C x k84 else f 280 ((67 + (2 * k84)) + 1))), some (.inl (Int32.ofNat k84))] [] (f, l) _
    refine fl_Tq.stp (pc' := 131) (lv' := [some (.inr (.inr (.inl (76, 277)))), some (.inl c), some (.inl x), some (.inl (f 280 (444 + 61 * C + 3))), some (.inl (r_limitBy_j8_0 f c C x)), some (.inl (r_limitBy_j63_0 f c C x)), some (.inl (if (f 280 (444 + 61 * C + 3)).toInt < (f 280 (67 + (2 * k84))).toInt then r_limitBy_a84 f c C x k84 else f 280 ((67 + (2 * k84)) + 1))), some (.inl ((Int32.ofNat k84) + (1 : Int32)))]) (st' := []) (m' := (f, l)) rfl rfl (fl_bo rfl) rfl ?_
    refine fl_Tq.stp (pc' := 84) (lv' := [some (.inr (.inr (.inl (76, 277)))), some (.inl c), some (.inl x), some (.inl (f 280 (444 + 61 * C + 3))), some (.inl (r_limitBy_j8_0 f c C x)), some (.inl (r_limitBy_j63_0 f c C x)), some (.inl (if (f 280 (444 + 61 * C + 3)).toInt < (f 280 (67 + (2 * k84))).toInt then r_limitBy_a84 f c C x k84 else f 280 ((67 + (2 * k84)) + 1))), some (.inl ((Int32.ofNat k84) + (1 : Int32)))]) (st' := []) (m' := (f, l)) rfl rfl (fl_bo rfl) rfl ?_
    have ea : r_limitBy_a84 f c C x (k84 + 1) = if (f 280 (444 + 61 * C + 3)).toInt < (f 280 (67 + (2 * k84))).toInt then r_limitBy_a84 f c C x k84 else f 280 ((67 + (2 * k84)) + 1) := by
      show (if (f 280 (444 + 61 * C + 3)).toInt < (f 280 (67 + (2 * k84))).toInt then r_limitBy_a84 f c C x k84 else f 280 ((67 + (2 * k84)) + 1)) = _
      rfl
    rw [ea, ← t2_k1] at hS
    exact hS
  refine t2_for (S := fun k84 => fl_Tq (pw_P L xs) 209 84 [some (.inr (.inr (.inl (76, 277)))), some (.inl c), some (.inl x), some (.inl (f 280 (444 + 61 * C + 3))), some (.inl (r_limitBy_j8_0 f c C x)), some (.inl (r_limitBy_j63_0 f c C x)), some (.inl (r_limitBy_a84 f c C x k84)), some (.inl (Int32.ofNat k84))] [] (f, l) Q) hs84 ?_
  show fl_Tq (pw_P L xs) 209 84 [some (.inr (.inr (.inl (76, 277)))), some (.inl c), some (.inl x), some (.inl (f 280 (444 + 61 * C + 3))), some (.inl (r_limitBy_j8_0 f c C x)), some (.inl (r_limitBy_j63_0 f c C x)), some (.inl (r_limitBy_a84 f c C x ((f 280 17).toInt.toNat))), some (.inl (Int32.ofNat ((f 280 17).toInt.toNat)))] [] (f, l) _
  refine fl_Tq.stp (pc' := 86) (lv' := [some (.inr (.inr (.inl (76, 277)))), some (.inl c), some (.inl x), some (.inl (f 280 (444 + 61 * C + 3))), some (.inl (r_limitBy_j8_0 f c C x)), some (.inl (r_limitBy_j63_0 f c C x)), some (.inl (r_limitBy_a84 f c C x ((f 280 17).toInt.toNat))), some (.inl (Int32.ofNat ((f 280 17).toInt.toNat)))]) (st' := [.inl (Int32.ofNat ((f 280 17).toInt.toNat))]) (m' := (f, l)) rfl rfl (fl_bo rfl) rfl ?_
  refine fl_Tq.stp (pc' := 87) (lv' := [some (.inr (.inr (.inl (76, 277)))), some (.inl c), some (.inl x), some (.inl (f 280 (444 + 61 * C + 3))), some (.inl (r_limitBy_j8_0 f c C x)), some (.inl (r_limitBy_j63_0 f c C x)), some (.inl (r_limitBy_a84 f c C x ((f 280 17).toInt.toNat))), some (.inl (Int32.ofNat ((f 280 17).toInt.toNat)))]) (st' := [.inr (.inr (.inl (76, 277))), .inl (Int32.ofNat ((f 280 17).toInt.toNat))]) (m' := (f, l)) rfl rfl (fl_bo rfl) rfl ?_
  refine fl_Tq.stp (pc' := 90) (lv' := [some (.inr (.inr (.inl (76, 277)))), some (.inl c), some (.inl x), some (.inl (f 280 (444 + 61 * C + 3))), some (.inl (r_limitBy_j8_0 f c C x)), some (.inl (r_limitBy_j63_0 f c C x)), some (.inl (r_limitBy_a84 f c C x ((f 280 17).toInt.toNat))), some (.inl (Int32.ofNat ((f 280 17).toInt.toNat)))]) (st' := [.inr (.inr (.inl (79, 280))), .inl (Int32.ofNat ((f 280 17).toInt.toNat))]) (m' := (f, l)) rfl rfl (fl_bo rfl) rfl ?_
  refine fl_Tq.cB (c := (17 : Int32)) rfl (by decide +kernel) (fl_bo rfl) ?_
  refine fl_Tq.ldV (p := 280) (τ := 79) (n := 29780) (z := (0, 0, 0)) (k := 17) (v := f 280 17) rfl (fl_bo rfl) rfl (by decide +kernel) (by decide) rfl ?_
  refine fl_Tq.jt rfl (fl_bo rfl) (c2_ge_t (t2_ln (t2_nn hz.1))) rfl ?_
  refine fl_Tq.stp (pc' := 136) (lv' := [some (.inr (.inr (.inl (76, 277)))), some (.inl c), some (.inl x), some (.inl (f 280 (444 + 61 * C + 3))), some (.inl (r_limitBy_j8_0 f c C x)), some (.inl (r_limitBy_j63_0 f c C x)), some (.inl (r_limitBy_a84 f c C x ((f 280 17).toInt.toNat))), some (.inl (Int32.ofNat ((f 280 17).toInt.toNat)))]) (st' := [.inl (r_limitBy_a84 f c C x ((f 280 17).toInt.toNat))]) (m' := (f, l)) rfl rfl (fl_bo rfl) rfl ?_
  refine fl_Tq.cI (c := (-1 : Int32)) rfl (by decide +kernel) (fl_bo rfl) ?_
  have hj65 : fl_Tq (pw_P L xs) 209 149 [some (.inr (.inr (.inl (76, 277)))), some (.inl c), some (.inl x), some (.inl (f 280 (444 + 61 * C + 3))), some (.inl (r_limitBy_j8_0 f c C x)), some (.inl (r_limitBy_j137_0 f c C x)), some (.inl (r_limitBy_a84 f c C x ((f 280 17).toInt.toNat))), some (.inl (Int32.ofNat ((f 280 17).toInt.toNat)))] [] (f, l) Q → fl_Tq (pw_P L xs) 209 137 [some (.inr (.inr (.inl (76, 277)))), some (.inl c), some (.inl x), some (.inl (f 280 (444 + 61 * C + 3))), some (.inl (r_limitBy_j8_0 f c C x)), some (.inl (r_limitBy_j63_0 f c C x)), some (.inl (r_limitBy_a84 f c C x ((f 280 17).toInt.toNat))), some (.inl (Int32.ofNat ((f 280 17).toInt.toNat)))] [.inl (-1 : Int32), .inl (r_limitBy_a84 f c C x ((f 280 17).toInt.toNat))] (f, l) Q := by
    intro hJ
    by_cases h5 : (r_limitBy_a84 f c C x ((f 280 17).toInt.toNat)).toInt = (-1 : Int32).toInt
    · refine fl_Tq.jt rfl (fl_bo rfl) (c2_eq_t h5) rfl ?_
      have e0 : (r_limitBy_j137_0 f c C x) = r_limitBy_j63_0 f c C x := by simp only [r_limitBy_j137_0, if_pos h5]
      rw [e0] at hJ
      exact hJ
    · refine fl_Tq.jf rfl (fl_bo rfl) (c2_eq_f h5) rfl ?_
      refine fl_Tq.stp (pc' := 142) (lv' := [some (.inr (.inr (.inl (76, 277)))), some (.inl c), some (.inl x), some (.inl (f 280 (444 + 61 * C + 3))), some (.inl (r_limitBy_j8_0 f c C x)), some (.inl (r_limitBy_j63_0 f c C x)), some (.inl (r_limitBy_a84 f c C x ((f 280 17).toInt.toNat))), some (.inl (Int32.ofNat ((f 280 17).toInt.toNat)))]) (st' := [.inl (r_limitBy_j63_0 f c C x)]) (m' := (f, l)) rfl rfl (fl_bo rfl) rfl ?_
      refine fl_Tq.stp (pc' := 144) (lv' := [some (.inr (.inr (.inl (76, 277)))), some (.inl c), some (.inl x), some (.inl (f 280 (444 + 61 * C + 3))), some (.inl (r_limitBy_j8_0 f c C x)), some (.inl (r_limitBy_j63_0 f c C x)), some (.inl (r_limitBy_a84 f c C x ((f 280 17).toInt.toNat))), some (.inl (Int32.ofNat ((f 280 17).toInt.toNat)))]) (st' := [.inl (r_limitBy_a84 f c C x ((f 280 17).toInt.toNat)), .inl (r_limitBy_j63_0 f c C x)]) (m' := (f, l)) rfl rfl (fl_bo rfl) rfl ?_
      refine fl_Tq.cal rfl rfl (fl_bo rfl) rfl ?_
      refine r_lesser_q  ?_
      show fl_Tq _ 209 147 [some (.inr (.inr (.inl (76, 277)))), some (.inl c), some (.inl x), some (.inl (f 280 (444 + 61 * C + 3))), some (.inl (r_limitBy_j8_0 f c C x)), some (.inl (r_limitBy_j63_0 f c C x)), some (.inl (r_limitBy_a84 f c C x ((f 280 17).toInt.toNat))), some (.inl (Int32.ofNat ((f 280 17).toInt.toNat)))] [.inl (r_lesser_v (r_limitBy_j63_0 f c C x) (r_limitBy_a84 f c C x ((f 280 17).toInt.toNat)))] (f, l) _
      refine fl_Tq.stp (pc' := 149) (lv' := [some (.inr (.inr (.inl (76, 277)))), some (.inl c), some (.inl x), some (.inl (f 280 (444 + 61 * C + 3))), some (.inl (r_limitBy_j8_0 f c C x)), some (.inl (r_lesser_v (r_limitBy_j63_0 f c C x) (r_limitBy_a84 f c C x ((f 280 17).toInt.toNat)))), some (.inl (r_limitBy_a84 f c C x ((f 280 17).toInt.toNat))), some (.inl (Int32.ofNat ((f 280 17).toInt.toNat)))]) (st' := []) (m' := (f, l)) rfl rfl (fl_bo rfl) rfl ?_
      have e0 : (r_limitBy_j137_0 f c C x) = r_lesser_v (r_limitBy_j63_0 f c C x) (r_limitBy_a84 f c C x ((f 280 17).toInt.toNat)) := by simp only [r_limitBy_j137_0, if_neg h5]
      rw [e0] at hJ
      exact hJ
  refine hj65 ?_
  show fl_Tq _ 209 149 [some (.inr (.inr (.inl (76, 277)))), some (.inl c), some (.inl x), some (.inl (f 280 (444 + 61 * C + 3))), some (.inl (r_limitBy_j8_0 f c C x)), some (.inl (r_limitBy_j137_0 f c C x)), some (.inl (r_limitBy_a84 f c C x ((f 280 17).toInt.toNat))), some (.inl (Int32.ofNat ((f 280 17).toInt.toNat)))] [] (f, l) _
  refine fl_Tq.stp (pc' := 151) (lv' := [some (.inr (.inr (.inl (76, 277)))), some (.inl c), some (.inl x), some (.inl (f 280 (444 + 61 * C + 3))), some (.inl (r_limitBy_j8_0 f c C x)), some (.inl (r_limitBy_j137_0 f c C x)), some (.inl (r_limitBy_a84 f c C x ((f 280 17).toInt.toNat))), some (.inl (Int32.ofNat ((f 280 17).toInt.toNat)))]) (st' := [.inl (r_limitBy_j137_0 f c C x)]) (m' := (f, l)) rfl rfl (fl_bo rfl) rfl ?_
  have hj66 : fl_Tq (pw_P L xs) 209 160 [some (.inr (.inr (.inl (76, 277)))), some (.inl c), some (.inl x), some (.inl (f 280 (444 + 61 * C + 3))), some (.inl (r_limitBy_j8_0 f c C x)), some (.inl (r_limitBy_j137_0 f c C x)), some (.inl (r_limitBy_a84 f c C x ((f 280 17).toInt.toNat))), some (.inl (Int32.ofNat ((f 280 17).toInt.toNat)))] [.inl (r_limitBy_j151_0 f c C x)] (f, l) Q → fl_Tq (pw_P L xs) 209 151 [some (.inr (.inr (.inl (76, 277)))), some (.inl c), some (.inl x), some (.inl (f 280 (444 + 61 * C + 3))), some (.inl (r_limitBy_j8_0 f c C x)), some (.inl (r_limitBy_j137_0 f c C x)), some (.inl (r_limitBy_a84 f c C x ((f 280 17).toInt.toNat))), some (.inl (Int32.ofNat ((f 280 17).toInt.toNat)))] [.inl (r_limitBy_j137_0 f c C x)] (f, l) Q := by
    intro hJ
    by_cases h6 : (r_limitBy_j137_0 f c C x).toInt < 0
    · refine fl_Tq.zf rfl (fl_bo rfl) (c1_ge_f h6) rfl ?_
      refine fl_Tq.cI (c := (0 : Int32)) rfl (by decide +kernel) (fl_bo rfl) ?_
      refine fl_Tq.stp (pc' := 160) (lv' := [some (.inr (.inr (.inl (76, 277)))), some (.inl c), some (.inl x), some (.inl (f 280 (444 + 61 * C + 3))), some (.inl (r_limitBy_j8_0 f c C x)), some (.inl (r_limitBy_j137_0 f c C x)), some (.inl (r_limitBy_a84 f c C x ((f 280 17).toInt.toNat))), some (.inl (Int32.ofNat ((f 280 17).toInt.toNat)))]) (st' := [.inl (0 : Int32)]) (m' := (f, l)) rfl rfl (fl_bo rfl) rfl ?_
      have e0 : (r_limitBy_j151_0 f c C x) = (0 : Int32) := by simp only [r_limitBy_j151_0, if_pos h6]
      rw [e0] at hJ
      exact hJ
    · refine fl_Tq.zt rfl (fl_bo rfl) (c1_ge_t h6) rfl ?_
      refine fl_Tq.stp (pc' := 160) (lv' := [some (.inr (.inr (.inl (76, 277)))), some (.inl c), some (.inl x), some (.inl (f 280 (444 + 61 * C + 3))), some (.inl (r_limitBy_j8_0 f c C x)), some (.inl (r_limitBy_j137_0 f c C x)), some (.inl (r_limitBy_a84 f c C x ((f 280 17).toInt.toNat))), some (.inl (Int32.ofNat ((f 280 17).toInt.toNat)))]) (st' := [.inl (r_limitBy_j137_0 f c C x)]) (m' := (f, l)) rfl rfl (fl_bo rfl) rfl ?_
      have e0 : (r_limitBy_j151_0 f c C x) = r_limitBy_j137_0 f c C x := by simp only [r_limitBy_j151_0, if_neg h6]
      rw [e0] at hJ
      exact hJ
  refine hj66 ?_
  show fl_Tq _ 209 160 [some (.inr (.inr (.inl (76, 277)))), some (.inl c), some (.inl x), some (.inl (f 280 (444 + 61 * C + 3))), some (.inl (r_limitBy_j8_0 f c C x)), some (.inl (r_limitBy_j137_0 f c C x)), some (.inl (r_limitBy_a84 f c C x ((f 280 17).toInt.toNat))), some (.inl (Int32.ofNat ((f 280 17).toInt.toNat)))] [.inl (r_limitBy_j151_0 f c C x)] (f, l) _
  exact fl_Tq.ret rfl rfl rfl k
noncomputable def r_limitOf_a8 (f : t2_F) (x : Int32) : Nat → Int32
  | 0 => f 280 38
  | k8 + 1 => r_lesser_v (r_limitOf_a8 f x k8) (r_limitBy_v f (Int32.ofNat k8) k8 x)
noncomputable def r_limitOf_v (f : t2_F) (x : Int32) : Int32 := r_limitOf_a8 f x ((f 280 2).toInt.toNat)
theorem r_limitOf_q {L : Nat} {xs : Nat → Int32} {f : t2_F} {l : t2_L} {Q : Option fl_V → fl_M → Prop} {x : Int32} (hn : 0 ≤ (f 280 2).toInt ∧ (f 280 2).toInt ≤ 16) (hr : t2_RS f) (hk : ∀ C : Nat, (C : Int) < (f 280 2).toInt → t2_ck f C) (hz : 0 ≤ (f 280 17).toInt ∧ (f 280 17).toInt ≤ 6) (k : Q (some (.inl (r_limitOf_v f x))) (f, l)) : fl_Tq (pw_P L xs) 210 0 (fl_args (am_mxl (pw_P L xs) 210) [.inr (.inr (.inl (76, 277))), .inl x]) [] (f, l) Q := by
  refine fl_Tq.stp (pc' := 1) (lv' := [some (.inr (.inr (.inl (76, 277)))), some (.inl x), none, none]) (st' := [.inr (.inr (.inl (76, 277)))]) (m' := (f, l)) rfl rfl (fl_bo rfl) rfl ?_
  refine fl_Tq.cI (c := (4 : Int32)) rfl (by decide +kernel) (fl_bo rfl) ?_
  refine fl_Tq.cal rfl rfl (fl_bo rfl) rfl ?_
  refine t2_its (W := 4) (v := f 280 38) (by decide +kernel) (by decide) rfl ?_
  show fl_Tq _ 210 5 [some (.inr (.inr (.inl (76, 277)))), some (.inl x), none, none] [.inl (f 280 38)] (f, l) _
  refine fl_Tq.stp (pc' := 6) (lv' := [some (.inr (.inr (.inl (76, 277)))), some (.inl x), some (.inl (f 280 38)), none]) (st' := []) (m' := (f, l)) rfl rfl (fl_bo rfl) rfl ?_
  refine fl_Tq.cI (c := (0 : Int32)) rfl (by decide +kernel) (fl_bo rfl) ?_
  refine fl_Tq.stp (pc' := 8) (lv' := [some (.inr (.inr (.inl (76, 277)))), some (.inl x), some (.inl (f 280 38)), some (.inl (0 : Int32))]) (st' := []) (m' := (f, l)) rfl rfl (fl_bo rfl) rfl ?_
  have hs8 : ∀ k8 : Nat, k8 < (f 280 2).toInt.toNat → fl_Tq (pw_P L xs) 210 8 [some (.inr (.inr (.inl (76, 277)))), some (.inl x), some (.inl (r_limitOf_a8 f x (k8 + 1))), some (.inl (Int32.ofNat (k8 + 1)))] [] (f, l) Q → fl_Tq (pw_P L xs) 210 8 [some (.inr (.inr (.inl (76, 277)))), some (.inl x), some (.inl (r_limitOf_a8 f x k8)), some (.inl (Int32.ofNat k8))] [] (f, l) Q := by
    intro k8 hk8 hS
    refine fl_Tq.stp (pc' := 9) (lv' := [some (.inr (.inr (.inl (76, 277)))), some (.inl x), some (.inl (r_limitOf_a8 f x k8)), some (.inl (Int32.ofNat k8))]) (st' := [.inl (Int32.ofNat k8)]) (m' := (f, l)) rfl rfl (fl_bo rfl) rfl ?_
    refine fl_Tq.stp (pc' := 10) (lv' := [some (.inr (.inr (.inl (76, 277)))), some (.inl x), some (.inl (r_limitOf_a8 f x k8)), some (.inl (Int32.ofNat k8))]) (st' := [.inr (.inr (.inl (76, 277))), .inl (Int32.ofNat k8)]) (m' := (f, l)) rfl rfl (fl_bo rfl) rfl ?_
    refine fl_Tq.stp (pc' := 13) (lv' := [some (.inr (.inr (.inl (76, 277)))), some (.inl x), some (.inl (r_limitOf_a8 f x k8)), some (.inl (Int32.ofNat k8))]) (st' := [.inr (.inr (.inl (79, 280))), .inl (Int32.ofNat k8)]) (m' := (f, l)) rfl rfl (fl_bo rfl) rfl ?_
    refine fl_Tq.cI (c := (2 : Int32)) rfl (by decide +kernel) (fl_bo rfl) ?_
    refine fl_Tq.ldV (p := 280) (τ := 79) (n := 29780) (z := (0, 0, 0)) (k := 2) (v := f 280 2) rfl (fl_bo rfl) rfl (by decide +kernel) (by decide) rfl ?_
    refine fl_Tq.jf rfl (fl_bo rfl) (c2_ge_f (t2_lk hk8 (t2_nn hn.1))) rfl ?_
    refine fl_Tq.stp (pc' := 19) (lv' := [some (.inr (.inr (.inl (76, 277)))), some (.inl x), some (.inl (r_limitOf_a8 f x k8)), some (.inl (Int32.ofNat k8))]) (st' := [.inl (r_limitOf_a8 f x k8)]) (m' := (f, l)) rfl rfl (fl_bo rfl) rfl ?_
    refine fl_Tq.stp (pc' := 20) (lv' := [some (.inr (.inr (.inl (76, 277)))), some (.inl x), some (.inl (r_limitOf_a8 f x k8)), some (.inl (Int32.ofNat k8))]) (st' := [.inr (.inr (.inl (76, 277))), .inl (r_limitOf_a8 f x k8)]) (m' := (f, l)) rfl rfl (fl_bo rfl) rfl ?_
    refine fl_Tq.stp (pc' := 21) (lv' := [some (.inr (.inr (.inl (76, 277)))), some (.inl x), some (.inl (r_limitOf_a8 f x k8)), some (.inl (Int32.ofNat k8))]) (st' := [.inl (Int32.ofNat k8), .inr (.inr (.inl (76, 277))), .inl (r_limitOf_a8 f x k8)]) (m' := (f, l)) rfl rfl (fl_bo rfl) rfl ?_
    refine fl_Tq.stp (pc' := 22) (lv' := [some (.inr (.inr (.inl (76, 277)))), some (.inl x), some (.inl (r_limitOf_a8 f x k8)), some (.inl (Int32.ofNat k8))]) (st' := [.inl x, .inl (Int32.ofNat k8), .inr (.inr (.inl (76, 277))), .inl (r_limitOf_a8 f x k8)]) (m' := (f, l)) rfl rfl (fl_bo rfl) rfl ?_
    refine fl_Tq.cal rfl rfl (fl_bo rfl) rfl ?_
    refine r_limitBy_q (at_ofN (by omega)) (by omega) hr (hk k8 (by omega)) hz ?_
    show fl_Tq _ 210 25 [some (.inr (.inr (.inl (76, 277)))), some (.inl x), some (.inl (r_limitOf_a8 f x k8)), some (.inl (Int32.ofNat k8))] [.inl (r_limitBy_v f (Int32.ofNat k8) k8 x), .inl (r_limitOf_a8 f x k8)] (f, l) _
    refine fl_Tq.cal rfl rfl (fl_bo rfl) rfl ?_
    refine r_lesser_q  ?_
    show fl_Tq _ 210 28 [some (.inr (.inr (.inl (76, 277)))), some (.inl x), some (.inl (r_limitOf_a8 f x k8)), some (.inl (Int32.ofNat k8))] [.inl (r_lesser_v (r_limitOf_a8 f x k8) (r_limitBy_v f (Int32.ofNat k8) k8 x))] (f, l) _
    refine fl_Tq.stp (pc' := 29) (lv' := [some (.inr (.inr (.inl (76, 277)))), some (.inl x), some (.inl (r_lesser_v (r_limitOf_a8 f x k8) (r_limitBy_v f (Int32.ofNat k8) k8 x))), some (.inl (Int32.ofNat k8))]) (st' := []) (m' := (f, l)) rfl rfl (fl_bo rfl) rfl ?_
    refine fl_Tq.stp (pc' := 32) (lv' := [some (.inr (.inr (.inl (76, 277)))), some (.inl x), some (.inl (r_lesser_v (r_limitOf_a8 f x k8) (r_limitBy_v f (Int32.ofNat k8) k8 x))), some (.inl ((Int32.ofNat k8) + (1 : Int32)))]) (st' := []) (m' := (f, l)) rfl rfl (fl_bo rfl) rfl ?_
    refine fl_Tq.stp (pc' := 8) (lv' := [some (.inr (.inr (.inl (76, 277)))), some (.inl x), some (.inl (r_lesser_v (r_limitOf_a8 f x k8) (r_limitBy_v f (Int32.ofNat k8) k8 x))), some (.inl ((Int32.ofNat k8) + (1 : Int32)))]) (st' := []) (m' := (f, l)) rfl rfl (fl_bo rfl) rfl ?_
    have ea : r_limitOf_a8 f x (k8 + 1) = r_lesser_v (r_limitOf_a8 f x k8) (r_limitBy_v f (Int32.ofNat k8) k8 x) := by
      show (r_lesser_v (r_limitOf_a8 f x k8) (r_limitBy_v f (Int32.ofNat k8) k8 x)) = _
      rfl
    rw [ea, ← t2_k1] at hS
    exact hS
  refine t2_for (S := fun k8 => fl_Tq (pw_P L xs) 210 8 [some (.inr (.inr (.inl (76, 277)))), some (.inl x), some (.inl (r_limitOf_a8 f x k8)), some (.inl (Int32.ofNat k8))] [] (f, l) Q) hs8 ?_
  show fl_Tq (pw_P L xs) 210 8 [some (.inr (.inr (.inl (76, 277)))), some (.inl x), some (.inl (r_limitOf_a8 f x ((f 280 2).toInt.toNat))), some (.inl (Int32.ofNat ((f 280 2).toInt.toNat)))] [] (f, l) _
  refine fl_Tq.stp (pc' := 9) (lv' := [some (.inr (.inr (.inl (76, 277)))), some (.inl x), some (.inl (r_limitOf_a8 f x ((f 280 2).toInt.toNat))), some (.inl (Int32.ofNat ((f 280 2).toInt.toNat)))]) (st' := [.inl (Int32.ofNat ((f 280 2).toInt.toNat))]) (m' := (f, l)) rfl rfl (fl_bo rfl) rfl ?_
  refine fl_Tq.stp (pc' := 10) (lv' := [some (.inr (.inr (.inl (76, 277)))), some (.inl x), some (.inl (r_limitOf_a8 f x ((f 280 2).toInt.toNat))), some (.inl (Int32.ofNat ((f 280 2).toInt.toNat)))]) (st' := [.inr (.inr (.inl (76, 277))), .inl (Int32.ofNat ((f 280 2).toInt.toNat))]) (m' := (f, l)) rfl rfl (fl_bo rfl) rfl ?_
  refine fl_Tq.stp (pc' := 13) (lv' := [some (.inr (.inr (.inl (76, 277)))), some (.inl x), some (.inl (r_limitOf_a8 f x ((f 280 2).toInt.toNat))), some (.inl (Int32.ofNat ((f 280 2).toInt.toNat)))]) (st' := [.inr (.inr (.inl (79, 280))), .inl (Int32.ofNat ((f 280 2).toInt.toNat))]) (m' := (f, l)) rfl rfl (fl_bo rfl) rfl ?_
  refine fl_Tq.cI (c := (2 : Int32)) rfl (by decide +kernel) (fl_bo rfl) ?_
  refine fl_Tq.ldV (p := 280) (τ := 79) (n := 29780) (z := (0, 0, 0)) (k := 2) (v := f 280 2) rfl (fl_bo rfl) rfl (by decide +kernel) (by decide) rfl ?_
  refine fl_Tq.jt rfl (fl_bo rfl) (c2_ge_t (t2_ln (t2_nn hn.1))) rfl ?_
  refine fl_Tq.stp (pc' := 36) (lv' := [some (.inr (.inr (.inl (76, 277)))), some (.inl x), some (.inl (r_limitOf_a8 f x ((f 280 2).toInt.toNat))), some (.inl (Int32.ofNat ((f 280 2).toInt.toNat)))]) (st' := [.inl (r_limitOf_a8 f x ((f 280 2).toInt.toNat))]) (m' := (f, l)) rfl rfl (fl_bo rfl) rfl ?_
  exact fl_Tq.ret rfl rfl rfl k
noncomputable def r_tightest_a4 (f : t2_F) (x : Int32) : Nat → Int32
  | 0 => (-1 : Int32)
  | k4 + 1 => if (r_tightest_a4 f x k4).toInt = (-1 : Int32).toInt then Int32.ofNat k4 else (if (r_limitBy_v f (Int32.ofNat k4) k4 x).toInt < (r_limitBy_v f (r_tightest_a4 f x k4) ((r_tightest_a4 f x k4).toInt.toNat) x).toInt then Int32.ofNat k4 else r_tightest_a4 f x k4)
theorem r_tightest_b {f : t2_F} {x : Int32} (k : Nat) : k ≤ 16 → (r_tightest_a4 f x k).toInt = -1 ∨ (0 ≤ (r_tightest_a4 f x k).toInt ∧ (r_tightest_a4 f x k).toInt < k) := by
  induction k with
  | zero =>
    intro _
    left
    show (-1 : Int32).toInt = -1
    decide +kernel
  | succ k ih =>
    intro hk
    have ih := ih (by omega)
    have e : (Int32.ofNat k).toInt = k := at_ofN (by omega)
    unfold r_tightest_a4
    repeat' split
    all_goals omega
noncomputable def r_tightest_v (f : t2_F) (x : Int32) : Int32 := r_tightest_a4 f x ((f 280 2).toInt.toNat)
theorem r_tightest_q {L : Nat} {xs : Nat → Int32} {f : t2_F} {l : t2_L} {Q : Option fl_V → fl_M → Prop} {x : Int32} (hn : 0 ≤ (f 280 2).toInt ∧ (f 280 2).toInt ≤ 16) (hr : t2_RS f) (hk : ∀ C : Nat, (C : Int) < (f 280 2).toInt → t2_ck f C) (hz : 0 ≤ (f 280 17).toInt ∧ (f 280 17).toInt ≤ 6) (k : Q (some (.inl (r_tightest_v f x))) (f, l)) : fl_Tq (pw_P L xs) 212 0 (fl_args (am_mxl (pw_P L xs) 212) [.inr (.inr (.inl (76, 277))), .inl x]) [] (f, l) Q := by
  refine fl_Tq.cI (c := (-1 : Int32)) rfl (by decide +kernel) (fl_bo rfl) ?_
  refine fl_Tq.stp (pc' := 2) (lv' := [some (.inr (.inr (.inl (76, 277)))), some (.inl x), some (.inl (-1 : Int32)), none]) (st' := []) (m' := (f, l)) rfl rfl (fl_bo rfl) rfl ?_
  refine fl_Tq.cI (c := (0 : Int32)) rfl (by decide +kernel) (fl_bo rfl) ?_
  refine fl_Tq.stp (pc' := 4) (lv' := [some (.inr (.inr (.inl (76, 277)))), some (.inl x), some (.inl (-1 : Int32)), some (.inl (0 : Int32))]) (st' := []) (m' := (f, l)) rfl rfl (fl_bo rfl) rfl ?_
  have hs4 : ∀ k4 : Nat, k4 < (f 280 2).toInt.toNat → fl_Tq (pw_P L xs) 212 4 [some (.inr (.inr (.inl (76, 277)))), some (.inl x), some (.inl (r_tightest_a4 f x (k4 + 1))), some (.inl (Int32.ofNat (k4 + 1)))] [] (f, l) Q → fl_Tq (pw_P L xs) 212 4 [some (.inr (.inr (.inl (76, 277)))), some (.inl x), some (.inl (r_tightest_a4 f x k4)), some (.inl (Int32.ofNat k4))] [] (f, l) Q := by
    intro k4 hk4 hS
    refine fl_Tq.stp (pc' := 5) (lv' := [some (.inr (.inr (.inl (76, 277)))), some (.inl x), some (.inl (r_tightest_a4 f x k4)), some (.inl (Int32.ofNat k4))]) (st' := [.inl (Int32.ofNat k4)]) (m' := (f, l)) rfl rfl (fl_bo rfl) rfl ?_
    refine fl_Tq.stp (pc' := 6) (lv' := [some (.inr (.inr (.inl (76, 277)))), some (.inl x), some (.inl (r_tightest_a4 f x k4)), some (.inl (Int32.ofNat k4))]) (st' := [.inr (.inr (.inl (76, 277))), .inl (Int32.ofNat k4)]) (m' := (f, l)) rfl rfl (fl_bo rfl) rfl ?_
    refine fl_Tq.stp (pc' := 9) (lv' := [some (.inr (.inr (.inl (76, 277)))), some (.inl x), some (.inl (r_tightest_a4 f x k4)), some (.inl (Int32.ofNat k4))]) (st' := [.inr (.inr (.inl (79, 280))), .inl (Int32.ofNat k4)]) (m' := (f, l)) rfl rfl (fl_bo rfl) rfl ?_
    refine fl_Tq.cI (c := (2 : Int32)) rfl (by decide +kernel) (fl_bo rfl) ?_
    refine fl_Tq.ldV (p := 280) (τ := 79) (n := 29780) (z := (0, 0, 0)) (k := 2) (v := f 280 2) rfl (fl_bo rfl) rfl (by decide +kernel) (by decide) rfl ?_
    refine fl_Tq.jf rfl (fl_bo rfl) (c2_ge_f (t2_lk hk4 (t2_nn hn.1))) rfl ?_
    refine fl_Tq.stp (pc' := 15) (lv' := [some (.inr (.inr (.inl (76, 277)))), some (.inl x), some (.inl (r_tightest_a4 f x k4)), some (.inl (Int32.ofNat k4))]) (st' := [.inl (r_tightest_a4 f x k4)]) (m' := (f, l)) rfl rfl (fl_bo rfl) rfl ?_
    refine fl_Tq.cI (c := (-1 : Int32)) rfl (by decide +kernel) (fl_bo rfl) ?_
    have hj67 : fl_Tq (pw_P L xs) 212 36 [some (.inr (.inr (.inl (76, 277)))), some (.inl x), some (.inl (if (r_tightest_a4 f x k4).toInt = (-1 : Int32).toInt then Int32.ofNat k4 else (if (r_limitBy_v f (Int32.ofNat k4) k4 x).toInt < (r_limitBy_v f (r_tightest_a4 f x k4) ((r_tightest_a4 f x k4).toInt.toNat) x).toInt then Int32.ofNat k4 else r_tightest_a4 f x k4))), some (.inl (Int32.ofNat k4))] [] (f, l) Q → fl_Tq (pw_P L xs) 212 16 [some (.inr (.inr (.inl (76, 277)))), some (.inl x), some (.inl (r_tightest_a4 f x k4)), some (.inl (Int32.ofNat k4))] [.inl (-1 : Int32), .inl (r_tightest_a4 f x k4)] (f, l) Q := by
      intro hJ
      by_cases h1 : (r_tightest_a4 f x k4).toInt = (-1 : Int32).toInt
      · refine fl_Tq.jt rfl (fl_bo rfl) (c2_eq_t h1) rfl ?_
        refine fl_Tq.stp (pc' := 35) (lv' := [some (.inr (.inr (.inl (76, 277)))), some (.inl x), some (.inl (r_tightest_a4 f x k4)), some (.inl (Int32.ofNat k4))]) (st' := [.inl (Int32.ofNat k4)]) (m' := (f, l)) rfl rfl (fl_bo rfl) rfl ?_
        refine fl_Tq.stp (pc' := 36) (lv' := [some (.inr (.inr (.inl (76, 277)))), some (.inl x), some (.inl (Int32.ofNat k4)), some (.inl (Int32.ofNat k4))]) (st' := []) (m' := (f, l)) rfl rfl (fl_bo rfl) rfl ?_
        have e0 : (if (r_tightest_a4 f x k4).toInt = (-1 : Int32).toInt then Int32.ofNat k4 else (if (r_limitBy_v f (Int32.ofNat k4) k4 x).toInt < (r_limitBy_v f (r_tightest_a4 f x k4) ((r_tightest_a4 f x k4).toInt.toNat) x).toInt then Int32.ofNat k4 else r_tightest_a4 f x k4)) = Int32.ofNat k4 := by simp only [if_pos h1]
        rw [e0] at hJ
        exact hJ
      · refine fl_Tq.jf rfl (fl_bo rfl) (c2_eq_f h1) rfl ?_
        refine fl_Tq.stp (pc' := 20) (lv' := [some (.inr (.inr (.inl (76, 277)))), some (.inl x), some (.inl (r_tightest_a4 f x k4)), some (.inl (Int32.ofNat k4))]) (st' := [.inr (.inr (.inl (76, 277)))]) (m' := (f, l)) rfl rfl (fl_bo rfl) rfl ?_
        refine fl_Tq.stp (pc' := 21) (lv' := [some (.inr (.inr (.inl (76, 277)))), some (.inl x), some (.inl (r_tightest_a4 f x k4)), some (.inl (Int32.ofNat k4))]) (st' := [.inl (Int32.ofNat k4), .inr (.inr (.inl (76, 277)))]) (m' := (f, l)) rfl rfl (fl_bo rfl) rfl ?_
        refine fl_Tq.stp (pc' := 22) (lv' := [some (.inr (.inr (.inl (76, 277)))), some (.inl x), some (.inl (r_tightest_a4 f x k4)), some (.inl (Int32.ofNat k4))]) (st' := [.inl x, .inl (Int32.ofNat k4), .inr (.inr (.inl (76, 277)))]) (m' := (f, l)) rfl rfl (fl_bo rfl) rfl ?_
        refine fl_Tq.cal rfl rfl (fl_bo rfl) rfl ?_
        refine r_limitBy_q (at_ofN (by omega)) (by omega) hr (hk k4 (by omega)) hz ?_
        show fl_Tq _ 212 25 [some (.inr (.inr (.inl (76, 277)))), some (.inl x), some (.inl (r_tightest_a4 f x k4)), some (.inl (Int32.ofNat k4))] [.inl (r_limitBy_v f (Int32.ofNat k4) k4 x)] (f, l) _
        refine fl_Tq.stp (pc' := 26) (lv' := [some (.inr (.inr (.inl (76, 277)))), some (.inl x), some (.inl (r_tightest_a4 f x k4)), some (.inl (Int32.ofNat k4))]) (st' := [.inr (.inr (.inl (76, 277))), .inl (r_limitBy_v f (Int32.ofNat k4) k4 x)]) (m' := (f, l)) rfl rfl (fl_bo rfl) rfl ?_
        refine fl_Tq.stp (pc' := 27) (lv' := [some (.inr (.inr (.inl (76, 277)))), some (.inl x), some (.inl (r_tightest_a4 f x k4)), some (.inl (Int32.ofNat k4))]) (st' := [.inl (r_tightest_a4 f x k4), .inr (.inr (.inl (76, 277))), .inl (r_limitBy_v f (Int32.ofNat k4) k4 x)]) (m' := (f, l)) rfl rfl (fl_bo rfl) rfl ?_
        refine fl_Tq.stp (pc' := 28) (lv' := [some (.inr (.inr (.inl (76, 277)))), some (.inl x), some (.inl (r_tightest_a4 f x k4)), some (.inl (Int32.ofNat k4))]) (st' := [.inl x, .inl (r_tightest_a4 f x k4), .inr (.inr (.inl (76, 277))), .inl (r_limitBy_v f (Int32.ofNat k4) k4 x)]) (m' := (f, l)) rfl rfl (fl_bo rfl) rfl ?_
        refine fl_Tq.cal rfl rfl (fl_bo rfl) rfl ?_
        refine r_limitBy_q (t2_nn (by have e1 : (-1 : Int32).toInt = -1 := (by decide +kernel); have := r_tightest_b (f := f) (x := x) k4 (by omega); omega)) (by have e1 : (-1 : Int32).toInt = -1 := (by decide +kernel); have := r_tightest_b (f := f) (x := x) k4 (by omega); omega) hr (hk ((r_tightest_a4 f x k4).toInt.toNat) (by have e1 : (-1 : Int32).toInt = -1 := (by decide +kernel); have := r_tightest_b (f := f) (x := x) k4 (by omega); omega)) hz ?_
        show fl_Tq _ 212 31 [some (.inr (.inr (.inl (76, 277)))), some (.inl x), some (.inl (r_tightest_a4 f x k4)), some (.inl (Int32.ofNat k4))] [.inl (r_limitBy_v f (r_tightest_a4 f x k4) ((r_tightest_a4 f x k4).toInt.toNat) x), .inl (r_limitBy_v f (Int32.ofNat k4) k4 x)] (f, l) _
        by_cases h2 : (r_limitBy_v f (Int32.ofNat k4) k4 x).toInt < (r_limitBy_v f (r_tightest_a4 f x k4) ((r_tightest_a4 f x k4).toInt.toNat) x).toInt
        · refine fl_Tq.jf rfl (fl_bo rfl) (c2_ge_f h2) rfl ?_
          refine fl_Tq.stp (pc' := 35) (lv' := [some (.inr (.inr (.inl (76, 277)))), some (.inl x), some (.inl (r_tightest_a4 f x k4)), some (.inl (Int32.ofNat k4))]) (st' := [.inl (Int32.ofNat k4)]) (m' := (f, l)) rfl rfl (fl_bo rfl) rfl ?_
          refine fl_Tq.stp (pc' := 36) (lv' := [some (.inr (.inr (.inl (76, 277)))), some (.inl x), some (.inl (Int32.ofNat k4)), some (.inl (Int32.ofNat k4))]) (st' := []) (m' := (f, l)) rfl rfl (fl_bo rfl) rfl ?_
          have e0 : (if (r_tightest_a4 f x k4).toInt = (-1 : Int32).toInt then Int32.ofNat k4 else (if (r_limitBy_v f (Int32.ofNat k4) k4 x).toInt < (r_limitBy_v f (r_tightest_a4 f x k4) ((r_tightest_a4 f x k4).toInt.toNat) x).toInt then Int32.ofNat k4 else r_tightest_a4 f x k4)) = Int32.ofNat k4 := by simp only [if_neg h1, if_pos h2]
          rw [e0] at hJ
          exact hJ
        · refine fl_Tq.jt rfl (fl_bo rfl) (c2_ge_t h2) rfl ?_
          have e0 : (if (r_tightest_a4 f x k4).toInt = (-1 : Int32).toInt then Int32.ofNat k4 else (if (r_limitBy_v f (Int32.ofNat k4) k4 x).toInt < (r_limitBy_v f (r_tightest_a4 f x k4) ((r_tightest_a4 f x k4).toInt.toNat) x).toInt then Int32.ofNat k4 else r_tightest_a4 f x k4)) = r_tightest_a4 f x k4 := by simp only [if_neg h1, if_neg h2]
          rw [e0] at hJ
          exact hJ
    refine hj67 ?_
    show fl_Tq _ 212 36 [some (.inr (.inr (.inl (76, 277)))), some (.inl x), some (.inl (if (r_tightest_a4 f x k4).toInt = (-1 : Int32).toInt then Int32.ofNat k4 else (if (r_limitBy_v f (Int32.ofNat k4) k4 x).toInt < (r_limitBy_v f (r_tightest_a4 f x k4) ((r_tightest_a4 f x k4).toInt.toNat) x).toInt then Int32.ofNat k4 else r_tightest_a4 f x k4))), some (.inl (Int32.ofNat k4))] [] (f, l) _
    refine fl_Tq.stp (pc' := 39) (lv' := [some (.inr (.inr (.inl (76, 277)))), some (.inl x), some (.inl (if (r_tightest_a4 f x k4).toInt = (-1 : Int32).toInt then Int32.ofNat k4 else (if (r_limitBy_v f (Int32.ofNat k4) k4 x).toInt < (r_limitBy_v f (r_tightest_a4 f x k4) ((r_tightest_a4 f x k4).toInt.toNat) x).toInt then Int32.ofNat k4 else r_tightest_a4 f x k4))), some (.inl ((Int32.ofNat k4) + (1 : Int32)))]) (st' := []) (m' := (f, l)) rfl rfl (fl_bo rfl) rfl ?_
    refine fl_Tq.stp (pc' := 4) (lv' := [some (.inr (.inr (.inl (76, 277)))), some (.inl x), some (.inl (if (r_tightest_a4 f x k4).toInt = (-1 : Int32).toInt then Int32.ofNat k4 else (if (r_limitBy_v f (Int32.ofNat k4) k4 x).toInt < (r_limitBy_v f (r_tightest_a4 f x k4) ((r_tightest_a4 f x k4).toInt.toNat) x).toInt then Int32.ofNat k4 else r_tightest_a4 f x k4))), some (.inl ((Int32.ofNat k4) + (1 : Int32)))]) (st' := []) (m' := (f, l)) rfl rfl (fl_bo rfl) rfl ?_
    have ea : r_tightest_a4 f x (k4 + 1) = if (r_tightest_a4 f x k4).toInt = (-1 : Int32).toInt then Int32.ofNat k4 else (if (r_limitBy_v f (Int32.ofNat k4) k4 x).toInt < (r_limitBy_v f (r_tightest_a4 f x k4) ((r_tightest_a4 f x k4).toInt.toNat) x).toInt then Int32.ofNat k4 else r_tightest_a4 f x k4) := by
      show (if (r_tightest_a4 f x k4).toInt = (-1 : Int32).toInt then Int32.ofNat k4 else (if (r_limitBy_v f (Int32.ofNat k4) k4 x).toInt < (r_limitBy_v f (r_tightest_a4 f x k4) ((r_tightest_a4 f x k4).toInt.toNat) x).toInt then Int32.ofNat k4 else r_tightest_a4 f x k4)) = _
      rfl
    rw [ea, ← t2_k1] at hS
    exact hS
  refine t2_for (S := fun k4 => fl_Tq (pw_P L xs) 212 4 [some (.inr (.inr (.inl (76, 277)))), some (.inl x), some (.inl (r_tightest_a4 f x k4)), some (.inl (Int32.ofNat k4))] [] (f, l) Q) hs4 ?_
  show fl_Tq (pw_P L xs) 212 4 [some (.inr (.inr (.inl (76, 277)))), some (.inl x), some (.inl (r_tightest_a4 f x ((f 280 2).toInt.toNat))), some (.inl (Int32.ofNat ((f 280 2).toInt.toNat)))] [] (f, l) _
  refine fl_Tq.stp (pc' := 5) (lv' := [some (.inr (.inr (.inl (76, 277)))), some (.inl x), some (.inl (r_tightest_a4 f x ((f 280 2).toInt.toNat))), some (.inl (Int32.ofNat ((f 280 2).toInt.toNat)))]) (st' := [.inl (Int32.ofNat ((f 280 2).toInt.toNat))]) (m' := (f, l)) rfl rfl (fl_bo rfl) rfl ?_
  refine fl_Tq.stp (pc' := 6) (lv' := [some (.inr (.inr (.inl (76, 277)))), some (.inl x), some (.inl (r_tightest_a4 f x ((f 280 2).toInt.toNat))), some (.inl (Int32.ofNat ((f 280 2).toInt.toNat)))]) (st' := [.inr (.inr (.inl (76, 277))), .inl (Int32.ofNat ((f 280 2).toInt.toNat))]) (m' := (f, l)) rfl rfl (fl_bo rfl) rfl ?_
  refine fl_Tq.stp (pc' := 9) (lv' := [some (.inr (.inr (.inl (76, 277)))), some (.inl x), some (.inl (r_tightest_a4 f x ((f 280 2).toInt.toNat))), some (.inl (Int32.ofNat ((f 280 2).toInt.toNat)))]) (st' := [.inr (.inr (.inl (79, 280))), .inl (Int32.ofNat ((f 280 2).toInt.toNat))]) (m' := (f, l)) rfl rfl (fl_bo rfl) rfl ?_
  refine fl_Tq.cI (c := (2 : Int32)) rfl (by decide +kernel) (fl_bo rfl) ?_
  refine fl_Tq.ldV (p := 280) (τ := 79) (n := 29780) (z := (0, 0, 0)) (k := 2) (v := f 280 2) rfl (fl_bo rfl) rfl (by decide +kernel) (by decide) rfl ?_
  refine fl_Tq.jt rfl (fl_bo rfl) (c2_ge_t (t2_ln (t2_nn hn.1))) rfl ?_
  refine fl_Tq.stp (pc' := 43) (lv' := [some (.inr (.inr (.inl (76, 277)))), some (.inl x), some (.inl (r_tightest_a4 f x ((f 280 2).toInt.toNat))), some (.inl (Int32.ofNat ((f 280 2).toInt.toNat)))]) (st' := [.inl (r_tightest_a4 f x ((f 280 2).toInt.toNat))]) (m' := (f, l)) rfl rfl (fl_bo rfl) rfl ?_
  exact fl_Tq.ret rfl rfl rfl k
noncomputable def r_goBus_j41_0 (f : t2_F)  : Int32 := if (f 280 4).toInt < (r_packCalm_v f).toInt then (((r_packCalm_v f) - (f 280 4)) + (3 : Int32)) / (4 : Int32) else (0 : Int32)
noncomputable def r_goBus_j78_0 (f : t2_F)  : Int32 := if (((f 280 4) + (r_goBus_j41_0 f)) - (f 280 41)).toInt < 0 then (0 : Int32) else ((f 280 4) + (r_goBus_j41_0 f)) - (f 280 41)
noncomputable def r_goBus_j16_0 (f : t2_F)  : Int32 := if (r_isLive_v f).toInt = 0 then (if ((r_actual_v f) &&& (3 : Int32)).toInt = (3 : Int32).toInt then r_goBus_j78_0 f else r_floor_v (f 280 4) (2 : Int32)) else r_packCalm_v f
noncomputable def r_goBus_m (f : t2_F) : t2_F := if (f 280 3).toInt = (1 : Int32).toInt then (if ((1000 : Int32) * (r_goBus_j16_0 f)).toInt < ((950 : Int32) * (r_packCalm_v f)).toInt then (if ((r_goBus_j16_0 f) - (f 280 4)).toInt < (f 280 42).toInt then fl_row (fl_row f 280 (upd (f 280) 4 (r_goBus_j16_0 f))) 277 (upd (f 277) 4 (1 : Int32)) else fl_row (fl_row f 280 (upd (f 280) 4 (r_goBus_j16_0 f))) 277 (upd (f 277) 4 (0 : Int32))) else fl_row (fl_row (fl_row f 280 (upd (f 280) 4 (r_goBus_j16_0 f))) 277 (upd (f 277) 4 (0 : Int32))) 280 (upd (upd (f 280) 4 (r_goBus_j16_0 f)) 3 (2 : Int32))) else fl_row (fl_row f 280 (upd (f 280) 4 (r_goBus_j16_0 f))) 277 (upd (f 277) 4 (0 : Int32))
theorem r_goBus_fr {f : t2_F}  {p : Nat} (e0 : p ≠ 277) (e280 : p ≠ 280) : r_goBus_m f p = f p := by
  unfold r_goBus_m
  repeat' split
  all_goals first | rfl | (simp only [fl_row_ne e0, fl_row_ne e280]; done) | (simp only [fl_row_ne e0, fl_row_ne e280]; split <;> simp only [fl_row_ne e0, fl_row_ne e280])
theorem r_goBus_w {f : t2_F}  {w : Nat} (e0 : w ≠ 4) (e1 : w ≠ 3) : r_goBus_m f 280 w = f 280 w := by
  unfold r_goBus_m
  repeat' split
  all_goals first | rfl | simp only [fl_row_self, upd_ne e0, upd_ne e1, fl_row_ne (by decide : 280 ≠ 277)]
theorem r_goBus_q {L : Nat} {xs : Nat → Int32} {f : t2_F} {l : t2_L} {Q : Option fl_V → fl_M → Prop}  (hn : 0 ≤ (f 280 2).toInt ∧ (f 280 2).toInt ≤ 16) (hr : t2_RS f) (hk : ∀ C : Nat, (C : Int) < (f 280 2).toInt → t2_ck f C) (k : Q none (r_goBus_m f, l)) : fl_Tq (pw_P L xs) 211 0 (fl_args (am_mxl (pw_P L xs) 211) [.inr (.inr (.inl (76, 277)))]) [] (f, l) Q := by
  refine fl_Tq.stp (pc' := 1) (lv' := [some (.inr (.inr (.inl (76, 277)))), none, none, none]) (st' := [.inr (.inr (.inl (76, 277)))]) (m' := (f, l)) rfl rfl (fl_bo rfl) rfl ?_
  refine fl_Tq.stp (pc' := 4) (lv' := [some (.inr (.inr (.inl (76, 277)))), none, none, none]) (st' := [.inr (.inr (.inl (79, 280)))]) (m' := (f, l)) rfl rfl (fl_bo rfl) rfl ?_
  refine fl_Tq.cI (c := (4 : Int32)) rfl (by decide +kernel) (fl_bo rfl) ?_
  refine fl_Tq.ldV (p := 280) (τ := 79) (n := 29780) (z := (0, 0, 0)) (k := 4) (v := f 280 4) rfl (fl_bo rfl) rfl (by decide +kernel) (by decide) rfl ?_
  refine fl_Tq.stp (pc' := 7) (lv' := [some (.inr (.inr (.inl (76, 277)))), some (.inl (f 280 4)), none, none]) (st' := []) (m' := (f, l)) rfl rfl (fl_bo rfl) rfl ?_
  refine fl_Tq.stp (pc' := 8) (lv' := [some (.inr (.inr (.inl (76, 277)))), some (.inl (f 280 4)), none, none]) (st' := [.inr (.inr (.inl (76, 277)))]) (m' := (f, l)) rfl rfl (fl_bo rfl) rfl ?_
  refine fl_Tq.cal rfl rfl (fl_bo rfl) rfl ?_
  refine r_packCalm_q hn hr hk ?_
  show fl_Tq _ 211 11 [some (.inr (.inr (.inl (76, 277)))), some (.inl (f 280 4)), none, none] [.inl (r_packCalm_v f)] (f, l) _
  refine fl_Tq.stp (pc' := 12) (lv' := [some (.inr (.inr (.inl (76, 277)))), some (.inl (f 280 4)), some (.inl (r_packCalm_v f)), none]) (st' := []) (m' := (f, l)) rfl rfl (fl_bo rfl) rfl ?_
  refine fl_Tq.stp (pc' := 13) (lv' := [some (.inr (.inr (.inl (76, 277)))), some (.inl (f 280 4)), some (.inl (r_packCalm_v f)), none]) (st' := [.inr (.inr (.inl (76, 277)))]) (m' := (f, l)) rfl rfl (fl_bo rfl) rfl ?_
  refine fl_Tq.cal rfl rfl (fl_bo rfl) rfl ?_
  refine r_isLive_q  ?_
  show fl_Tq _ 211 16 [some (.inr (.inr (.inl (76, 277)))), some (.inl (f 280 4)), some (.inl (r_packCalm_v f)), none] [.inl (r_isLive_v f)] (f, l) _
  have hj70 : fl_Tq (pw_P L xs) 211 102 [some (.inr (.inr (.inl (76, 277)))), some (.inl (f 280 4)), some (.inl (r_packCalm_v f)), none] [] (fl_row f 280 (upd (f 280) 4 (r_goBus_j16_0 f)), l) Q → fl_Tq (pw_P L xs) 211 16 [some (.inr (.inr (.inl (76, 277)))), some (.inl (f 280 4)), some (.inl (r_packCalm_v f)), none] [.inl (r_isLive_v f)] (f, l) Q := by
    intro hJ
    by_cases h1 : (r_isLive_v f).toInt = 0
    · refine fl_Tq.zt rfl (fl_bo rfl) (c1_eq_t h1) rfl ?_
      refine fl_Tq.stp (pc' := 30) (lv' := [some (.inr (.inr (.inl (76, 277)))), some (.inl (f 280 4)), some (.inl (r_packCalm_v f)), none]) (st' := [.inr (.inr (.inl (76, 277)))]) (m' := (f, l)) rfl rfl (fl_bo rfl) rfl ?_
      refine fl_Tq.cal rfl rfl (fl_bo rfl) rfl ?_
      refine r_actual_q  ?_
      show fl_Tq _ 211 33 [some (.inr (.inr (.inl (76, 277)))), some (.inl (f 280 4)), some (.inl (r_packCalm_v f)), none] [.inl (r_actual_v f)] (f, l) _
      refine fl_Tq.cI (c := (3 : Int32)) rfl (by decide +kernel) (fl_bo rfl) ?_
      refine fl_Tq.stp (pc' := 35) (lv' := [some (.inr (.inr (.inl (76, 277)))), some (.inl (f 280 4)), some (.inl (r_packCalm_v f)), none]) (st' := [.inl ((r_actual_v f) &&& (3 : Int32))]) (m' := (f, l)) rfl rfl (fl_bo rfl) rfl ?_
      refine fl_Tq.cI (c := (3 : Int32)) rfl (by decide +kernel) (fl_bo rfl) ?_
      by_cases h2 : ((r_actual_v f) &&& (3 : Int32)).toInt = (3 : Int32).toInt
      · refine fl_Tq.jf rfl (fl_bo rfl) (c2_ne_f h2) rfl ?_
        refine fl_Tq.stp (pc' := 40) (lv' := [some (.inr (.inr (.inl (76, 277)))), some (.inl (f 280 4)), some (.inl (r_packCalm_v f)), none]) (st' := [.inl (r_packCalm_v f)]) (m' := (f, l)) rfl rfl (fl_bo rfl) rfl ?_
        refine fl_Tq.stp (pc' := 41) (lv' := [some (.inr (.inr (.inl (76, 277)))), some (.inl (f 280 4)), some (.inl (r_packCalm_v f)), none]) (st' := [.inl (f 280 4), .inl (r_packCalm_v f)]) (m' := (f, l)) rfl rfl (fl_bo rfl) rfl ?_
        have hj68 : fl_Tq (pw_P L xs) 211 55 [some (.inr (.inr (.inl (76, 277)))), some (.inl (f 280 4)), some (.inl (r_packCalm_v f)), none] [.inl (r_goBus_j41_0 f)] (f, l) Q → fl_Tq (pw_P L xs) 211 41 [some (.inr (.inr (.inl (76, 277)))), some (.inl (f 280 4)), some (.inl (r_packCalm_v f)), none] [.inl (f 280 4), .inl (r_packCalm_v f)] (f, l) Q := by
          intro hJ
          by_cases h3 : (f 280 4).toInt < (r_packCalm_v f).toInt
          · refine fl_Tq.jf rfl (fl_bo rfl) (c2_le_f h3) rfl ?_
            refine fl_Tq.stp (pc' := 45) (lv' := [some (.inr (.inr (.inl (76, 277)))), some (.inl (f 280 4)), some (.inl (r_packCalm_v f)), none]) (st' := [.inl (r_packCalm_v f)]) (m' := (f, l)) rfl rfl (fl_bo rfl) rfl ?_
            refine fl_Tq.stp (pc' := 46) (lv' := [some (.inr (.inr (.inl (76, 277)))), some (.inl (f 280 4)), some (.inl (r_packCalm_v f)), none]) (st' := [.inl (f 280 4), .inl (r_packCalm_v f)]) (m' := (f, l)) rfl rfl (fl_bo rfl) rfl ?_
            refine fl_Tq.stp (pc' := 47) (lv' := [some (.inr (.inr (.inl (76, 277)))), some (.inl (f 280 4)), some (.inl (r_packCalm_v f)), none]) (st' := [.inl ((r_packCalm_v f) - (f 280 4))]) (m' := (f, l)) rfl rfl (fl_bo rfl) rfl ?_
            refine fl_Tq.cI (c := (3 : Int32)) rfl (by decide +kernel) (fl_bo rfl) ?_
            refine fl_Tq.stp (pc' := 49) (lv' := [some (.inr (.inr (.inl (76, 277)))), some (.inl (f 280 4)), some (.inl (r_packCalm_v f)), none]) (st' := [.inl (((r_packCalm_v f) - (f 280 4)) + (3 : Int32))]) (m' := (f, l)) rfl rfl (fl_bo rfl) rfl ?_
            refine fl_Tq.cI (c := (4 : Int32)) rfl (by decide +kernel) (fl_bo rfl) ?_
            refine fl_Tq.dv rfl (fl_bo rfl) (by decide +kernel) ?_
            refine fl_Tq.stp (pc' := 55) (lv' := [some (.inr (.inr (.inl (76, 277)))), some (.inl (f 280 4)), some (.inl (r_packCalm_v f)), none]) (st' := [.inl ((((r_packCalm_v f) - (f 280 4)) + (3 : Int32)) / (4 : Int32))]) (m' := (f, l)) rfl rfl (fl_bo rfl) rfl ?_
            have e0 : (r_goBus_j41_0 f) = (((r_packCalm_v f) - (f 280 4)) + (3 : Int32)) / (4 : Int32) := by simp only [r_goBus_j41_0, if_pos h3]
            rw [e0] at hJ
            exact hJ
          · refine fl_Tq.jt rfl (fl_bo rfl) (c2_le_t h3) rfl ?_
            refine fl_Tq.cI (c := (0 : Int32)) rfl (by decide +kernel) (fl_bo rfl) ?_
            have e0 : (r_goBus_j41_0 f) = (0 : Int32) := by simp only [r_goBus_j41_0, if_neg h3]
            rw [e0] at hJ
            exact hJ
        refine hj68 ?_
        show fl_Tq _ 211 55 [some (.inr (.inr (.inl (76, 277)))), some (.inl (f 280 4)), some (.inl (r_packCalm_v f)), none] [.inl (r_goBus_j41_0 f)] (f, l) _
        refine fl_Tq.stp (pc' := 56) (lv' := [some (.inr (.inr (.inl (76, 277)))), some (.inl (f 280 4)), some (.inl (r_packCalm_v f)), some (.inl (r_goBus_j41_0 f))]) (st' := []) (m' := (f, l)) rfl rfl (fl_bo rfl) rfl ?_
        refine fl_Tq.stp (pc' := 57) (lv' := [some (.inr (.inr (.inl (76, 277)))), some (.inl (f 280 4)), some (.inl (r_packCalm_v f)), some (.inl (r_goBus_j41_0 f))]) (st' := [.inr (.inr (.inl (76, 277)))]) (m' := (f, l)) rfl rfl (fl_bo rfl) rfl ?_
        refine fl_Tq.stp (pc' := 60) (lv' := [some (.inr (.inr (.inl (76, 277)))), some (.inl (f 280 4)), some (.inl (r_packCalm_v f)), some (.inl (r_goBus_j41_0 f))]) (st' := [.inr (.inr (.inl (79, 280)))]) (m' := (f, l)) rfl rfl (fl_bo rfl) rfl ?_
        refine fl_Tq.cI (c := (4 : Int32)) rfl (by decide +kernel) (fl_bo rfl) ?_
        refine fl_Tq.stp (pc' := 62) (lv' := [some (.inr (.inr (.inl (76, 277)))), some (.inl (f 280 4)), some (.inl (r_packCalm_v f)), some (.inl (r_goBus_j41_0 f))]) (st' := [.inl (f 280 4), .inl (4 : Int32), .inr (.inr (.inl (79, 280)))]) (m' := (f, l)) rfl rfl (fl_bo rfl) rfl ?_
        refine fl_Tq.stp (pc' := 63) (lv' := [some (.inr (.inr (.inl (76, 277)))), some (.inl (f 280 4)), some (.inl (r_packCalm_v f)), some (.inl (r_goBus_j41_0 f))]) (st' := [.inl (r_goBus_j41_0 f), .inl (f 280 4), .inl (4 : Int32), .inr (.inr (.inl (79, 280)))]) (m' := (f, l)) rfl rfl (fl_bo rfl) rfl ?_
        refine fl_Tq.stp (pc' := 64) (lv' := [some (.inr (.inr (.inl (76, 277)))), some (.inl (f 280 4)), some (.inl (r_packCalm_v f)), some (.inl (r_goBus_j41_0 f))]) (st' := [.inl ((f 280 4) + (r_goBus_j41_0 f)), .inl (4 : Int32), .inr (.inr (.inl (79, 280)))]) (m' := (f, l)) rfl rfl (fl_bo rfl) rfl ?_
        refine fl_Tq.stp (pc' := 65) (lv' := [some (.inr (.inr (.inl (76, 277)))), some (.inl (f 280 4)), some (.inl (r_packCalm_v f)), some (.inl (r_goBus_j41_0 f))]) (st' := [.inr (.inr (.inl (76, 277))), .inl ((f 280 4) + (r_goBus_j41_0 f)), .inl (4 : Int32), .inr (.inr (.inl (79, 280)))]) (m' := (f, l)) rfl rfl (fl_bo rfl) rfl ?_
        refine fl_Tq.cB (c := (7 : Int32)) rfl (by decide +kernel) (fl_bo rfl) ?_
        refine fl_Tq.cal rfl rfl (fl_bo rfl) rfl ?_
        refine t2_its (W := 7) (v := f 280 41) (by decide +kernel) (by decide) rfl ?_
        show fl_Tq _ 211 70 [some (.inr (.inr (.inl (76, 277)))), some (.inl (f 280 4)), some (.inl (r_packCalm_v f)), some (.inl (r_goBus_j41_0 f))] [.inl (f 280 41), .inl ((f 280 4) + (r_goBus_j41_0 f)), .inl (4 : Int32), .inr (.inr (.inl (79, 280)))] (f, l) _
        refine fl_Tq.stp (pc' := 71) (lv' := [some (.inr (.inr (.inl (76, 277)))), some (.inl (f 280 4)), some (.inl (r_packCalm_v f)), some (.inl (r_goBus_j41_0 f))]) (st' := [.inl (((f 280 4) + (r_goBus_j41_0 f)) - (f 280 41)), .inl (4 : Int32), .inr (.inr (.inl (79, 280)))]) (m' := (f, l)) rfl rfl (fl_bo rfl) rfl ?_
        refine fl_Tq.svV (p := 280) (τ := 79) (n := 29780) (z := (0, 0, 0)) (k := 4) (m' := (fl_row f 280 (upd (f 280) 4 (((f 280 4) + (r_goBus_j41_0 f)) - (f 280 41))), l)) rfl (fl_bo rfl) rfl (by decide +kernel) (by decide) (t2_upn rfl) ?_
        refine fl_Tq.stp (pc' := 73) (lv' := [some (.inr (.inr (.inl (76, 277)))), some (.inl (f 280 4)), some (.inl (r_packCalm_v f)), some (.inl (r_goBus_j41_0 f))]) (st' := [.inr (.inr (.inl (76, 277)))]) (m' := (fl_row f 280 (upd (f 280) 4 (((f 280 4) + (r_goBus_j41_0 f)) - (f 280 41))), l)) rfl rfl (fl_bo rfl) rfl ?_
        refine fl_Tq.stp (pc' := 76) (lv' := [some (.inr (.inr (.inl (76, 277)))), some (.inl (f 280 4)), some (.inl (r_packCalm_v f)), some (.inl (r_goBus_j41_0 f))]) (st' := [.inr (.inr (.inl (79, 280)))]) (m' := (fl_row f 280 (upd (f 280) 4 (((f 280 4) + (r_goBus_j41_0 f)) - (f 280 41))), l)) rfl rfl (fl_bo rfl) rfl ?_
        refine fl_Tq.cI (c := (4 : Int32)) rfl (by decide +kernel) (fl_bo rfl) ?_
        refine fl_Tq.ldV (p := 280) (τ := 79) (n := 29780) (z := (0, 0, 0)) (k := 4) (v := ((f 280 4) + (r_goBus_j41_0 f)) - (f 280 41)) rfl (fl_bo rfl) rfl (by decide +kernel) (by decide) (by simp only [fl_row_self, upd_self]) ?_
        have hj69 : fl_Tq (pw_P L xs) 211 88 [some (.inr (.inr (.inl (76, 277)))), some (.inl (f 280 4)), some (.inl (r_packCalm_v f)), some (.inl (r_goBus_j41_0 f))] [] (fl_row f 280 (upd (f 280) 4 (r_goBus_j78_0 f)), l) Q → fl_Tq (pw_P L xs) 211 78 [some (.inr (.inr (.inl (76, 277)))), some (.inl (f 280 4)), some (.inl (r_packCalm_v f)), some (.inl (r_goBus_j41_0 f))] [.inl (((f 280 4) + (r_goBus_j41_0 f)) - (f 280 41))] (fl_row f 280 (upd (f 280) 4 (((f 280 4) + (r_goBus_j41_0 f)) - (f 280 41))), l) Q := by
          intro hJ
          by_cases h4 : (((f 280 4) + (r_goBus_j41_0 f)) - (f 280 41)).toInt < 0
          · refine fl_Tq.zf rfl (fl_bo rfl) (c1_ge_f h4) rfl ?_
            refine fl_Tq.stp (pc' := 82) (lv' := [some (.inr (.inr (.inl (76, 277)))), some (.inl (f 280 4)), some (.inl (r_packCalm_v f)), some (.inl (r_goBus_j41_0 f))]) (st' := [.inr (.inr (.inl (76, 277)))]) (m' := (fl_row f 280 (upd (f 280) 4 (((f 280 4) + (r_goBus_j41_0 f)) - (f 280 41))), l)) rfl rfl (fl_bo rfl) rfl ?_
            refine fl_Tq.stp (pc' := 85) (lv' := [some (.inr (.inr (.inl (76, 277)))), some (.inl (f 280 4)), some (.inl (r_packCalm_v f)), some (.inl (r_goBus_j41_0 f))]) (st' := [.inr (.inr (.inl (79, 280)))]) (m' := (fl_row f 280 (upd (f 280) 4 (((f 280 4) + (r_goBus_j41_0 f)) - (f 280 41))), l)) rfl rfl (fl_bo rfl) rfl ?_
            refine fl_Tq.cI (c := (4 : Int32)) rfl (by decide +kernel) (fl_bo rfl) ?_
            refine fl_Tq.cI (c := (0 : Int32)) rfl (by decide +kernel) (fl_bo rfl) ?_
            refine fl_Tq.svV (p := 280) (τ := 79) (n := 29780) (z := (0, 0, 0)) (k := 4) (m' := (fl_row f 280 (upd (f 280) 4 (0 : Int32)), l)) rfl (fl_bo rfl) rfl (by decide +kernel) (by decide) (t2_upo) ?_
            have e0 : (fl_row f 280 (upd (f 280) 4 (r_goBus_j78_0 f))) = fl_row f 280 (upd (f 280) 4 (0 : Int32)) := by
              simp only [r_goBus_j78_0, if_pos h4]
            rw [e0] at hJ
            exact hJ
          · refine fl_Tq.zt rfl (fl_bo rfl) (c1_ge_t h4) rfl ?_
            have e0 : (fl_row f 280 (upd (f 280) 4 (r_goBus_j78_0 f))) = fl_row f 280 (upd (f 280) 4 (((f 280 4) + (r_goBus_j41_0 f)) - (f 280 41))) := by
              simp only [r_goBus_j78_0, if_neg h4]
            rw [e0] at hJ
            exact hJ
        refine hj69 ?_
        show fl_Tq _ 211 88 [some (.inr (.inr (.inl (76, 277)))), some (.inl (f 280 4)), some (.inl (r_packCalm_v f)), some (.inl (r_goBus_j41_0 f))] [] (fl_row f 280 (upd (f 280) 4 (r_goBus_j78_0 f)), l) _
        refine fl_Tq.stp (pc' := 102) (lv' := [some (.inr (.inr (.inl (76, 277)))), some (.inl (f 280 4)), some (.inl (r_packCalm_v f)), some (.inl (r_goBus_j41_0 f))]) (st' := []) (m' := (fl_row f 280 (upd (f 280) 4 (r_goBus_j78_0 f)), l)) rfl rfl (fl_bo rfl) rfl ?_
        have e0 : (fl_row f 280 (upd (f 280) 4 (r_goBus_j16_0 f))) = fl_row f 280 (upd (f 280) 4 (r_goBus_j78_0 f)) := by
          simp only [r_goBus_j16_0, if_pos h1, if_pos h2]
        rw [e0] at hJ
        exact fl_Tq.fg hJ ⟨rfl, rfl, rfl, True.intro⟩
      · refine fl_Tq.jt rfl (fl_bo rfl) (c2_ne_t h2) rfl ?_
        refine fl_Tq.stp (pc' := 92) (lv' := [some (.inr (.inr (.inl (76, 277)))), some (.inl (f 280 4)), some (.inl (r_packCalm_v f)), none]) (st' := [.inr (.inr (.inl (76, 277)))]) (m' := (f, l)) rfl rfl (fl_bo rfl) rfl ?_
        refine fl_Tq.stp (pc' := 95) (lv' := [some (.inr (.inr (.inl (76, 277)))), some (.inl (f 280 4)), some (.inl (r_packCalm_v f)), none]) (st' := [.inr (.inr (.inl (79, 280)))]) (m' := (f, l)) rfl rfl (fl_bo rfl) rfl ?_
        refine fl_Tq.cI (c := (4 : Int32)) rfl (by decide +kernel) (fl_bo rfl) ?_
        refine fl_Tq.stp (pc' := 97) (lv' := [some (.inr (.inr (.inl (76, 277)))), some (.inl (f 280 4)), some (.inl (r_packCalm_v f)), none]) (st' := [.inl (f 280 4), .inl (4 : Int32), .inr (.inr (.inl (79, 280)))]) (m' := (f, l)) rfl rfl (fl_bo rfl) rfl ?_
        refine fl_Tq.cI (c := (2 : Int32)) rfl (by decide +kernel) (fl_bo rfl) ?_
        refine fl_Tq.cal rfl rfl (fl_bo rfl) rfl ?_
        refine r_floor_q (by decide +kernel) ?_
        show fl_Tq _ 211 101 [some (.inr (.inr (.inl (76, 277)))), some (.inl (f 280 4)), some (.inl (r_packCalm_v f)), none] [.inl (r_floor_v (f 280 4) (2 : Int32)), .inl (4 : Int32), .inr (.inr (.inl (79, 280)))] (f, l) _
        refine fl_Tq.svV (p := 280) (τ := 79) (n := 29780) (z := (0, 0, 0)) (k := 4) (m' := (fl_row f 280 (upd (f 280) 4 (r_floor_v (f 280 4) (2 : Int32))), l)) rfl (fl_bo rfl) rfl (by decide +kernel) (by decide) (t2_upn rfl) ?_
        have e0 : (fl_row f 280 (upd (f 280) 4 (r_goBus_j16_0 f))) = fl_row f 280 (upd (f 280) 4 (r_floor_v (f 280 4) (2 : Int32))) := by
          simp only [r_goBus_j16_0, if_pos h1, if_neg h2]
        rw [e0] at hJ
        exact hJ
    · refine fl_Tq.zf rfl (fl_bo rfl) (c1_eq_f h1) rfl ?_
      refine fl_Tq.stp (pc' := 20) (lv' := [some (.inr (.inr (.inl (76, 277)))), some (.inl (f 280 4)), some (.inl (r_packCalm_v f)), none]) (st' := [.inr (.inr (.inl (76, 277)))]) (m' := (f, l)) rfl rfl (fl_bo rfl) rfl ?_
      refine fl_Tq.stp (pc' := 23) (lv' := [some (.inr (.inr (.inl (76, 277)))), some (.inl (f 280 4)), some (.inl (r_packCalm_v f)), none]) (st' := [.inr (.inr (.inl (79, 280)))]) (m' := (f, l)) rfl rfl (fl_bo rfl) rfl ?_
      refine fl_Tq.cI (c := (4 : Int32)) rfl (by decide +kernel) (fl_bo rfl) ?_
      refine fl_Tq.stp (pc' := 25) (lv' := [some (.inr (.inr (.inl (76, 277)))), some (.inl (f 280 4)), some (.inl (r_packCalm_v f)), none]) (st' := [.inl (r_packCalm_v f), .inl (4 : Int32), .inr (.inr (.inl (79, 280)))]) (m' := (f, l)) rfl rfl (fl_bo rfl) rfl ?_
      refine fl_Tq.svV (p := 280) (τ := 79) (n := 29780) (z := (0, 0, 0)) (k := 4) (m' := (fl_row f 280 (upd (f 280) 4 (r_packCalm_v f)), l)) rfl (fl_bo rfl) rfl (by decide +kernel) (by decide) (t2_upn rfl) ?_
      refine fl_Tq.stp (pc' := 102) (lv' := [some (.inr (.inr (.inl (76, 277)))), some (.inl (f 280 4)), some (.inl (r_packCalm_v f)), none]) (st' := []) (m' := (fl_row f 280 (upd (f 280) 4 (r_packCalm_v f)), l)) rfl rfl (fl_bo rfl) rfl ?_
      have e0 : (fl_row f 280 (upd (f 280) 4 (r_goBus_j16_0 f))) = fl_row f 280 (upd (f 280) 4 (r_packCalm_v f)) := by
        simp only [r_goBus_j16_0, if_neg h1]
      rw [e0] at hJ
      exact hJ
  refine hj70 ?_
  show fl_Tq _ 211 102 [some (.inr (.inr (.inl (76, 277)))), some (.inl (f 280 4)), some (.inl (r_packCalm_v f)), none] [] (fl_row f 280 (upd (f 280) 4 (r_goBus_j16_0 f)), l) _
  refine fl_Tq.stp (pc' := 103) (lv' := [some (.inr (.inr (.inl (76, 277)))), some (.inl (f 280 4)), some (.inl (r_packCalm_v f)), none]) (st' := [.inr (.inr (.inl (76, 277)))]) (m' := (fl_row f 280 (upd (f 280) 4 (r_goBus_j16_0 f)), l)) rfl rfl (fl_bo rfl) rfl ?_
  refine fl_Tq.cI (c := (0 : Int32)) rfl (by decide +kernel) (fl_bo rfl) ?_
  refine fl_Tq.pfV (k := 4) (m' := (fl_row (fl_row f 280 (upd (f 280) 4 (r_goBus_j16_0 f))) 277 (upd (f 277) 4 (0 : Int32)), l)) rfl (fl_bo rfl) rfl (t2_upn (by rw [fl_row_ne (by decide : 277 ≠ 280)])) ?_
  refine fl_Tq.stp (pc' := 108) (lv' := [some (.inr (.inr (.inl (76, 277)))), some (.inl (f 280 4)), some (.inl (r_packCalm_v f)), none]) (st' := [.inr (.inr (.inl (76, 277)))]) (m' := (fl_row (fl_row f 280 (upd (f 280) 4 (r_goBus_j16_0 f))) 277 (upd (f 277) 4 (0 : Int32)), l)) rfl rfl (fl_bo rfl) rfl ?_
  refine fl_Tq.stp (pc' := 111) (lv' := [some (.inr (.inr (.inl (76, 277)))), some (.inl (f 280 4)), some (.inl (r_packCalm_v f)), none]) (st' := [.inr (.inr (.inl (79, 280)))]) (m' := (fl_row (fl_row f 280 (upd (f 280) 4 (r_goBus_j16_0 f))) 277 (upd (f 277) 4 (0 : Int32)), l)) rfl rfl (fl_bo rfl) rfl ?_
  refine fl_Tq.cI (c := (3 : Int32)) rfl (by decide +kernel) (fl_bo rfl) ?_
  refine fl_Tq.ldV (p := 280) (τ := 79) (n := 29780) (z := (0, 0, 0)) (k := 3) (v := f 280 3) rfl (fl_bo rfl) rfl (by decide +kernel) (by decide) (by simp only [fl_row_ne (by decide : 280 ≠ 277), fl_row_self, upd_ne (by decide : 3 ≠ 4)]) ?_
  refine fl_Tq.cI (c := (1 : Int32)) rfl (by decide +kernel) (fl_bo rfl) ?_
  by_cases h5 : (f 280 3).toInt = (1 : Int32).toInt
  · refine fl_Tq.jt rfl (fl_bo rfl) (c2_eq_t h5) rfl ?_
    refine fl_Tq.cS (c := (1000 : Int32)) rfl (by decide +kernel) (fl_bo rfl) ?_
    refine fl_Tq.stp (pc' := 122) (lv' := [some (.inr (.inr (.inl (76, 277)))), some (.inl (f 280 4)), some (.inl (r_packCalm_v f)), none]) (st' := [.inr (.inr (.inl (76, 277))), .inl (1000 : Int32)]) (m' := (fl_row (fl_row f 280 (upd (f 280) 4 (r_goBus_j16_0 f))) 277 (upd (f 277) 4 (0 : Int32)), l)) rfl rfl (fl_bo rfl) rfl ?_
    refine fl_Tq.stp (pc' := 125) (lv' := [some (.inr (.inr (.inl (76, 277)))), some (.inl (f 280 4)), some (.inl (r_packCalm_v f)), none]) (st' := [.inr (.inr (.inl (79, 280))), .inl (1000 : Int32)]) (m' := (fl_row (fl_row f 280 (upd (f 280) 4 (r_goBus_j16_0 f))) 277 (upd (f 277) 4 (0 : Int32)), l)) rfl rfl (fl_bo rfl) rfl ?_
    refine fl_Tq.cI (c := (4 : Int32)) rfl (by decide +kernel) (fl_bo rfl) ?_
    refine fl_Tq.ldV (p := 280) (τ := 79) (n := 29780) (z := (0, 0, 0)) (k := 4) (v := r_goBus_j16_0 f) rfl (fl_bo rfl) rfl (by decide +kernel) (by decide) (by simp only [fl_row_ne (by decide : 280 ≠ 277), fl_row_self, upd_self]) ?_
    refine fl_Tq.stp (pc' := 128) (lv' := [some (.inr (.inr (.inl (76, 277)))), some (.inl (f 280 4)), some (.inl (r_packCalm_v f)), none]) (st' := [.inl ((1000 : Int32) * (r_goBus_j16_0 f))]) (m' := (fl_row (fl_row f 280 (upd (f 280) 4 (r_goBus_j16_0 f))) 277 (upd (f 277) 4 (0 : Int32)), l)) rfl rfl (fl_bo rfl) rfl ?_
    refine fl_Tq.cS (c := (950 : Int32)) rfl (by decide +kernel) (fl_bo rfl) ?_
    refine fl_Tq.stp (pc' := 132) (lv' := [some (.inr (.inr (.inl (76, 277)))), some (.inl (f 280 4)), some (.inl (r_packCalm_v f)), none]) (st' := [.inl (r_packCalm_v f), .inl (950 : Int32), .inl ((1000 : Int32) * (r_goBus_j16_0 f))]) (m' := (fl_row (fl_row f 280 (upd (f 280) 4 (r_goBus_j16_0 f))) 277 (upd (f 277) 4 (0 : Int32)), l)) rfl rfl (fl_bo rfl) rfl ?_
    refine fl_Tq.stp (pc' := 133) (lv' := [some (.inr (.inr (.inl (76, 277)))), some (.inl (f 280 4)), some (.inl (r_packCalm_v f)), none]) (st' := [.inl ((950 : Int32) * (r_packCalm_v f)), .inl ((1000 : Int32) * (r_goBus_j16_0 f))]) (m' := (fl_row (fl_row f 280 (upd (f 280) 4 (r_goBus_j16_0 f))) 277 (upd (f 277) 4 (0 : Int32)), l)) rfl rfl (fl_bo rfl) rfl ?_
    have hj71 : fl_Tq (pw_P L xs) 211 172 [some (.inr (.inr (.inl (76, 277)))), some (.inl (f 280 4)), some (.inl (r_packCalm_v f)), none] [] (if ((1000 : Int32) * (r_goBus_j16_0 f)).toInt < ((950 : Int32) * (r_packCalm_v f)).toInt then (if ((r_goBus_j16_0 f) - (f 280 4)).toInt < (f 280 42).toInt then fl_row (fl_row f 280 (upd (f 280) 4 (r_goBus_j16_0 f))) 277 (upd (f 277) 4 (1 : Int32)) else fl_row (fl_row f 280 (upd (f 280) 4 (r_goBus_j16_0 f))) 277 (upd (f 277) 4 (0 : Int32))) else fl_row (fl_row (fl_row f 280 (upd (f 280) 4 (r_goBus_j16_0 f))) 277 (upd (f 277) 4 (0 : Int32))) 280 (upd (upd (f 280) 4 (r_goBus_j16_0 f)) 3 (2 : Int32)), l) Q → fl_Tq (pw_P L xs) 211 133 [some (.inr (.inr (.inl (76, 277)))), some (.inl (f 280 4)), some (.inl (r_packCalm_v f)), none] [.inl ((950 : Int32) * (r_packCalm_v f)), .inl ((1000 : Int32) * (r_goBus_j16_0 f))] (fl_row (fl_row f 280 (upd (f 280) 4 (r_goBus_j16_0 f))) 277 (upd (f 277) 4 (0 : Int32)), l) Q := by
      intro hJ
      by_cases h6 : ((1000 : Int32) * (r_goBus_j16_0 f)).toInt < ((950 : Int32) * (r_packCalm_v f)).toInt
      · refine fl_Tq.jt rfl (fl_bo rfl) (c2_lt_t h6) rfl ?_
        refine fl_Tq.stp (pc' := 147) (lv' := [some (.inr (.inr (.inl (76, 277)))), some (.inl (f 280 4)), some (.inl (r_packCalm_v f)), none]) (st' := [.inr (.inr (.inl (76, 277)))]) (m' := (fl_row (fl_row f 280 (upd (f 280) 4 (r_goBus_j16_0 f))) 277 (upd (f 277) 4 (0 : Int32)), l)) rfl rfl (fl_bo rfl) rfl ?_
        refine fl_Tq.stp (pc' := 148) (lv' := [some (.inr (.inr (.inl (76, 277)))), some (.inl (f 280 4)), some (.inl (r_packCalm_v f)), none]) (st' := [.inr (.inr (.inl (76, 277))), .inr (.inr (.inl (76, 277)))]) (m' := (fl_row (fl_row f 280 (upd (f 280) 4 (r_goBus_j16_0 f))) 277 (upd (f 277) 4 (0 : Int32)), l)) rfl rfl (fl_bo rfl) rfl ?_
        refine fl_Tq.stp (pc' := 151) (lv' := [some (.inr (.inr (.inl (76, 277)))), some (.inl (f 280 4)), some (.inl (r_packCalm_v f)), none]) (st' := [.inr (.inr (.inl (79, 280))), .inr (.inr (.inl (76, 277)))]) (m' := (fl_row (fl_row f 280 (upd (f 280) 4 (r_goBus_j16_0 f))) 277 (upd (f 277) 4 (0 : Int32)), l)) rfl rfl (fl_bo rfl) rfl ?_
        refine fl_Tq.cI (c := (4 : Int32)) rfl (by decide +kernel) (fl_bo rfl) ?_
        refine fl_Tq.ldV (p := 280) (τ := 79) (n := 29780) (z := (0, 0, 0)) (k := 4) (v := r_goBus_j16_0 f) rfl (fl_bo rfl) rfl (by decide +kernel) (by decide) (by simp only [fl_row_ne (by decide : 280 ≠ 277), fl_row_self, upd_self]) ?_
        refine fl_Tq.stp (pc' := 154) (lv' := [some (.inr (.inr (.inl (76, 277)))), some (.inl (f 280 4)), some (.inl (r_packCalm_v f)), none]) (st' := [.inl (f 280 4), .inl (r_goBus_j16_0 f), .inr (.inr (.inl (76, 277)))]) (m' := (fl_row (fl_row f 280 (upd (f 280) 4 (r_goBus_j16_0 f))) 277 (upd (f 277) 4 (0 : Int32)), l)) rfl rfl (fl_bo rfl) rfl ?_
        refine fl_Tq.stp (pc' := 155) (lv' := [some (.inr (.inr (.inl (76, 277)))), some (.inl (f 280 4)), some (.inl (r_packCalm_v f)), none]) (st' := [.inl ((r_goBus_j16_0 f) - (f 280 4)), .inr (.inr (.inl (76, 277)))]) (m' := (fl_row (fl_row f 280 (upd (f 280) 4 (r_goBus_j16_0 f))) 277 (upd (f 277) 4 (0 : Int32)), l)) rfl rfl (fl_bo rfl) rfl ?_
        refine fl_Tq.stp (pc' := 156) (lv' := [some (.inr (.inr (.inl (76, 277)))), some (.inl (f 280 4)), some (.inl (r_packCalm_v f)), none]) (st' := [.inr (.inr (.inl (76, 277))), .inl ((r_goBus_j16_0 f) - (f 280 4)), .inr (.inr (.inl (76, 277)))]) (m' := (fl_row (fl_row f 280 (upd (f 280) 4 (r_goBus_j16_0 f))) 277 (upd (f 277) 4 (0 : Int32)), l)) rfl rfl (fl_bo rfl) rfl ?_
        refine fl_Tq.cB (c := (8 : Int32)) rfl (by decide +kernel) (fl_bo rfl) ?_
        refine fl_Tq.cal rfl rfl (fl_bo rfl) rfl ?_
        refine t2_its (W := 8) (v := f 280 42) (by decide +kernel) (by decide) (by simp only [fl_row_ne (by decide : 280 ≠ 277), fl_row_self, upd_ne (by decide : 42 ≠ 4)]) ?_
        show fl_Tq _ 211 161 [some (.inr (.inr (.inl (76, 277)))), some (.inl (f 280 4)), some (.inl (r_packCalm_v f)), none] [.inl (f 280 42), .inl ((r_goBus_j16_0 f) - (f 280 4)), .inr (.inr (.inl (76, 277)))] (fl_row (fl_row f 280 (upd (f 280) 4 (r_goBus_j16_0 f))) 277 (upd (f 277) 4 (0 : Int32)), l) _
        by_cases h7 : ((r_goBus_j16_0 f) - (f 280 4)).toInt < (f 280 42).toInt
        · refine fl_Tq.jf rfl (fl_bo rfl) (c2_ge_f h7) rfl ?_
          refine fl_Tq.cI (c := (1 : Int32)) rfl (by decide +kernel) (fl_bo rfl) ?_
          refine fl_Tq.stp (pc' := 169) (lv' := [some (.inr (.inr (.inl (76, 277)))), some (.inl (f 280 4)), some (.inl (r_packCalm_v f)), none]) (st' := [.inl (1 : Int32), .inr (.inr (.inl (76, 277)))]) (m' := (fl_row (fl_row f 280 (upd (f 280) 4 (r_goBus_j16_0 f))) 277 (upd (f 277) 4 (0 : Int32)), l)) rfl rfl (fl_bo rfl) rfl ?_
          refine fl_Tq.pfV (k := 4) (m' := (fl_row (fl_row f 280 (upd (f 280) 4 (r_goBus_j16_0 f))) 277 (upd (f 277) 4 (1 : Int32)), l)) rfl (fl_bo rfl) rfl (t2_upo) ?_
          have e0 : (if ((1000 : Int32) * (r_goBus_j16_0 f)).toInt < ((950 : Int32) * (r_packCalm_v f)).toInt then (if ((r_goBus_j16_0 f) - (f 280 4)).toInt < (f 280 42).toInt then fl_row (fl_row f 280 (upd (f 280) 4 (r_goBus_j16_0 f))) 277 (upd (f 277) 4 (1 : Int32)) else fl_row (fl_row f 280 (upd (f 280) 4 (r_goBus_j16_0 f))) 277 (upd (f 277) 4 (0 : Int32))) else fl_row (fl_row (fl_row f 280 (upd (f 280) 4 (r_goBus_j16_0 f))) 277 (upd (f 277) 4 (0 : Int32))) 280 (upd (upd (f 280) 4 (r_goBus_j16_0 f)) 3 (2 : Int32))) = fl_row (fl_row f 280 (upd (f 280) 4 (r_goBus_j16_0 f))) 277 (upd (f 277) 4 (1 : Int32)) := by simp only [if_pos h6, if_pos h7]
          rw [e0] at hJ
          exact hJ
        · refine fl_Tq.jt rfl (fl_bo rfl) (c2_ge_t h7) rfl ?_
          refine fl_Tq.cI (c := (0 : Int32)) rfl (by decide +kernel) (fl_bo rfl) ?_
          refine fl_Tq.pfV (k := 4) (m' := (fl_row (fl_row f 280 (upd (f 280) 4 (r_goBus_j16_0 f))) 277 (upd (f 277) 4 (0 : Int32)), l)) rfl (fl_bo rfl) rfl (t2_upo) ?_
          have e0 : (if ((1000 : Int32) * (r_goBus_j16_0 f)).toInt < ((950 : Int32) * (r_packCalm_v f)).toInt then (if ((r_goBus_j16_0 f) - (f 280 4)).toInt < (f 280 42).toInt then fl_row (fl_row f 280 (upd (f 280) 4 (r_goBus_j16_0 f))) 277 (upd (f 277) 4 (1 : Int32)) else fl_row (fl_row f 280 (upd (f 280) 4 (r_goBus_j16_0 f))) 277 (upd (f 277) 4 (0 : Int32))) else fl_row (fl_row (fl_row f 280 (upd (f 280) 4 (r_goBus_j16_0 f))) 277 (upd (f 277) 4 (0 : Int32))) 280 (upd (upd (f 280) 4 (r_goBus_j16_0 f)) 3 (2 : Int32))) = fl_row (fl_row f 280 (upd (f 280) 4 (r_goBus_j16_0 f))) 277 (upd (f 277) 4 (0 : Int32)) := by simp only [if_pos h6, if_neg h7]
          rw [e0] at hJ
          exact hJ
      · refine fl_Tq.jf rfl (fl_bo rfl) (c2_lt_f h6) rfl ?_
        refine fl_Tq.stp (pc' := 137) (lv' := [some (.inr (.inr (.inl (76, 277)))), some (.inl (f 280 4)), some (.inl (r_packCalm_v f)), none]) (st' := [.inr (.inr (.inl (76, 277)))]) (m' := (fl_row (fl_row f 280 (upd (f 280) 4 (r_goBus_j16_0 f))) 277 (upd (f 277) 4 (0 : Int32)), l)) rfl rfl (fl_bo rfl) rfl ?_
        refine fl_Tq.stp (pc' := 140) (lv' := [some (.inr (.inr (.inl (76, 277)))), some (.inl (f 280 4)), some (.inl (r_packCalm_v f)), none]) (st' := [.inr (.inr (.inl (79, 280)))]) (m' := (fl_row (fl_row f 280 (upd (f 280) 4 (r_goBus_j16_0 f))) 277 (upd (f 277) 4 (0 : Int32)), l)) rfl rfl (fl_bo rfl) rfl ?_
        refine fl_Tq.cI (c := (3 : Int32)) rfl (by decide +kernel) (fl_bo rfl) ?_
        refine fl_Tq.cI (c := (2 : Int32)) rfl (by decide +kernel) (fl_bo rfl) ?_
        refine fl_Tq.svV (p := 280) (τ := 79) (n := 29780) (z := (0, 0, 0)) (k := 3) (m' := (fl_row (fl_row (fl_row f 280 (upd (f 280) 4 (r_goBus_j16_0 f))) 277 (upd (f 277) 4 (0 : Int32))) 280 (upd (upd (f 280) 4 (r_goBus_j16_0 f)) 3 (2 : Int32)), l)) rfl (fl_bo rfl) rfl (by decide +kernel) (by decide) (t2_upn (by rw [fl_row_ne (by decide : 280 ≠ 277), fl_row_self])) ?_
        refine fl_Tq.stp (pc' := 172) (lv' := [some (.inr (.inr (.inl (76, 277)))), some (.inl (f 280 4)), some (.inl (r_packCalm_v f)), none]) (st' := []) (m' := (fl_row (fl_row (fl_row f 280 (upd (f 280) 4 (r_goBus_j16_0 f))) 277 (upd (f 277) 4 (0 : Int32))) 280 (upd (upd (f 280) 4 (r_goBus_j16_0 f)) 3 (2 : Int32)), l)) rfl rfl (fl_bo rfl) rfl ?_
        have e0 : (if ((1000 : Int32) * (r_goBus_j16_0 f)).toInt < ((950 : Int32) * (r_packCalm_v f)).toInt then (if ((r_goBus_j16_0 f) - (f 280 4)).toInt < (f 280 42).toInt then fl_row (fl_row f 280 (upd (f 280) 4 (r_goBus_j16_0 f))) 277 (upd (f 277) 4 (1 : Int32)) else fl_row (fl_row f 280 (upd (f 280) 4 (r_goBus_j16_0 f))) 277 (upd (f 277) 4 (0 : Int32))) else fl_row (fl_row (fl_row f 280 (upd (f 280) 4 (r_goBus_j16_0 f))) 277 (upd (f 277) 4 (0 : Int32))) 280 (upd (upd (f 280) 4 (r_goBus_j16_0 f)) 3 (2 : Int32))) = fl_row (fl_row (fl_row f 280 (upd (f 280) 4 (r_goBus_j16_0 f))) 277 (upd (f 277) 4 (0 : Int32))) 280 (upd (upd (f 280) 4 (r_goBus_j16_0 f)) 3 (2 : Int32)) := by simp only [if_neg h6]
        rw [e0] at hJ
        exact hJ
    refine hj71 ?_
    show fl_Tq _ 211 172 [some (.inr (.inr (.inl (76, 277)))), some (.inl (f 280 4)), some (.inl (r_packCalm_v f)), none] [] (if ((1000 : Int32) * (r_goBus_j16_0 f)).toInt < ((950 : Int32) * (r_packCalm_v f)).toInt then (if ((r_goBus_j16_0 f) - (f 280 4)).toInt < (f 280 42).toInt then fl_row (fl_row f 280 (upd (f 280) 4 (r_goBus_j16_0 f))) 277 (upd (f 277) 4 (1 : Int32)) else fl_row (fl_row f 280 (upd (f 280) 4 (r_goBus_j16_0 f))) 277 (upd (f 277) 4 (0 : Int32))) else fl_row (fl_row (fl_row f 280 (upd (f 280) 4 (r_goBus_j16_0 f))) 277 (upd (f 277) 4 (0 : Int32))) 280 (upd (upd (f 280) 4 (r_goBus_j16_0 f)) 3 (2 : Int32)), l) _
    refine fl_Tq.ret rfl rfl rfl ?_
    unfold r_goBus_m at k
    simp only [if_pos h5] at k
    exact k
  · refine fl_Tq.jf rfl (fl_bo rfl) (c2_eq_f h5) rfl ?_
    refine fl_Tq.ret rfl rfl rfl ?_
    unfold r_goBus_m at k
    simp only [if_neg h5] at k
    exact k
theorem r_tightest_vb {f : t2_F} {x : Int32} (hn : 0 ≤ (f 280 2).toInt ∧ (f 280 2).toInt ≤ 16) : (r_tightest_v f x).toInt = -1 ∨ (0 ≤ (r_tightest_v f x).toInt ∧ (r_tightest_v f x).toInt < (f 280 2).toInt) := by
  have := r_tightest_b (f := f) (x := x) (f 280 2).toInt.toNat (by omega)
  unfold r_tightest_v
  omega
noncomputable def r_goCurrent_j9_0 (f : t2_F)  : Int32 := if (r_isLive_v f).toInt = 0 then (0 : Int32) else r_held_v (f 280 54) (-(r_limitOf_v f (1 : Int32))) (r_limitOf_v f (0 : Int32))
noncomputable def r_goCurrent_j66_0 (f : t2_F)  : Int32 := if 0 < (f 280 54).toInt then (0 : Int32) else (1 : Int32)
noncomputable def r_goCurrent_j83_0 (f : t2_F)  : Int32 := if (r_tightest_v (fl_row f 280 (upd (f 280) 5 (r_goCurrent_j9_0 f))) (r_goCurrent_j66_0 f)).toInt = (-1 : Int32).toInt then f 280 (444 + 61 * ((r_tightest_v (fl_row f 280 (upd (f 280) 5 (r_goCurrent_j9_0 f))) (r_goCurrent_j66_0 f)).toInt.toNat) + 60) else (if (f 280 38).toInt < (r_limitBy_v (fl_row f 280 (upd (f 280) 5 (r_goCurrent_j9_0 f))) (r_tightest_v (fl_row f 280 (upd (f 280) 5 (r_goCurrent_j9_0 f))) (r_goCurrent_j66_0 f)) ((r_tightest_v (fl_row f 280 (upd (f 280) 5 (r_goCurrent_j9_0 f))) (r_goCurrent_j66_0 f)).toInt.toNat) (r_goCurrent_j66_0 f)).toInt then f 280 (444 + 61 * ((r_tightest_v (fl_row f 280 (upd (f 280) 5 (r_goCurrent_j9_0 f))) (r_goCurrent_j66_0 f)).toInt.toNat) + 60) else (f 280 (444 + 61 * ((r_tightest_v (fl_row f 280 (upd (f 280) 5 (r_goCurrent_j9_0 f))) (r_goCurrent_j66_0 f)).toInt.toNat) + 60)) + (1 : Int32))
noncomputable def r_goCurrent_m (f : t2_F) : t2_F := if (r_isLive_v (fl_row f 280 (upd (f 280) 5 (r_goCurrent_j9_0 f)))).toInt = 0 then fl_row f 280 (upd (f 280) 5 (r_goCurrent_j9_0 f)) else (if (r_goCurrent_j9_0 f).toInt = (f 280 54).toInt then fl_row f 280 (upd (f 280) 5 (r_goCurrent_j9_0 f)) else fl_row f 280 (upd (upd (f 280) 5 (r_goCurrent_j9_0 f)) (444 + 61 * ((r_tightest_v (fl_row f 280 (upd (f 280) 5 (r_goCurrent_j9_0 f))) (r_goCurrent_j66_0 f)).toInt.toNat) + 60) (r_goCurrent_j83_0 f)))
theorem r_goCurrent_fr {f : t2_F}  {p : Nat}  (e280 : p ≠ 280) : r_goCurrent_m f p = f p := by
  unfold r_goCurrent_m
  repeat' split
  all_goals first | rfl | simp only [fl_row_ne e280]
theorem r_goCurrent_w {f : t2_F}  {w : Nat} (e0 : w ≠ 5) (e1 : w ≠ 444 + 61 * ((r_tightest_v (fl_row f 280 (upd (f 280) 5 (r_goCurrent_j9_0 f))) (r_goCurrent_j66_0 f)).toInt.toNat) + 60) : r_goCurrent_m f 280 w = f 280 w := by
  unfold r_goCurrent_m
  repeat' split
  all_goals first | rfl | simp only [fl_row_self, upd_ne e0, upd_ne e1]
theorem r_goCurrent_q {L : Nat} {xs : Nat → Int32} {f : t2_F} {l : t2_L} {Q : Option fl_V → fl_M → Prop}  (hn : 0 ≤ (f 280 2).toInt ∧ (f 280 2).toInt ≤ 16) (hr : t2_RS f) (hk : ∀ C : Nat, (C : Int) < (f 280 2).toInt → t2_ck f C) (hz : 0 ≤ (f 280 17).toInt ∧ (f 280 17).toInt ≤ 6) (k : Q none (r_goCurrent_m f, l)) : fl_Tq (pw_P L xs) 213 0 (fl_args (am_mxl (pw_P L xs) 213) [.inr (.inr (.inl (76, 277)))]) [] (f, l) Q := by
  refine fl_Tq.stp (pc' := 1) (lv' := [some (.inr (.inr (.inl (76, 277)))), none, none]) (st' := [.inr (.inr (.inl (76, 277)))]) (m' := (f, l)) rfl rfl (fl_bo rfl) rfl ?_
  refine fl_Tq.stp (pc' := 4) (lv' := [some (.inr (.inr (.inl (76, 277)))), none, none]) (st' := [.inr (.inr (.inl (79, 280)))]) (m' := (f, l)) rfl rfl (fl_bo rfl) rfl ?_
  refine fl_Tq.cI (c := (5 : Int32)) rfl (by decide +kernel) (fl_bo rfl) ?_
  refine fl_Tq.stp (pc' := 6) (lv' := [some (.inr (.inr (.inl (76, 277)))), none, none]) (st' := [.inr (.inr (.inl (76, 277))), .inl (5 : Int32), .inr (.inr (.inl (79, 280)))]) (m' := (f, l)) rfl rfl (fl_bo rfl) rfl ?_
  refine fl_Tq.cal rfl rfl (fl_bo rfl) rfl ?_
  refine r_isLive_q  ?_
  show fl_Tq _ 213 9 [some (.inr (.inr (.inl (76, 277)))), none, none] [.inl (r_isLive_v f), .inl (5 : Int32), .inr (.inr (.inl (79, 280)))] (f, l) _
  have hj72 : fl_Tq (pw_P L xs) 213 36 [some (.inr (.inr (.inl (76, 277)))), none, none] [.inl (r_goCurrent_j9_0 f), .inl (5 : Int32), .inr (.inr (.inl (79, 280)))] (f, l) Q → fl_Tq (pw_P L xs) 213 9 [some (.inr (.inr (.inl (76, 277)))), none, none] [.inl (r_isLive_v f), .inl (5 : Int32), .inr (.inr (.inl (79, 280)))] (f, l) Q := by
    intro hJ
    by_cases h1 : (r_isLive_v f).toInt = 0
    · refine fl_Tq.zt rfl (fl_bo rfl) (c1_eq_t h1) rfl ?_
      refine fl_Tq.cI (c := (0 : Int32)) rfl (by decide +kernel) (fl_bo rfl) ?_
      have e0 : (r_goCurrent_j9_0 f) = (0 : Int32) := by simp only [r_goCurrent_j9_0, if_pos h1]
      rw [e0] at hJ
      exact hJ
    · refine fl_Tq.zf rfl (fl_bo rfl) (c1_eq_f h1) rfl ?_
      refine fl_Tq.stp (pc' := 13) (lv' := [some (.inr (.inr (.inl (76, 277)))), none, none]) (st' := [.inr (.inr (.inl (76, 277))), .inl (5 : Int32), .inr (.inr (.inl (79, 280)))]) (m' := (f, l)) rfl rfl (fl_bo rfl) rfl ?_
      refine fl_Tq.cB (c := (20 : Int32)) rfl (by decide +kernel) (fl_bo rfl) ?_
      refine fl_Tq.cal rfl rfl (fl_bo rfl) rfl ?_
      refine t2_its (W := 20) (v := f 280 54) (by decide +kernel) (by decide) rfl ?_
      show fl_Tq _ 213 18 [some (.inr (.inr (.inl (76, 277)))), none, none] [.inl (f 280 54), .inl (5 : Int32), .inr (.inr (.inl (79, 280)))] (f, l) _
      refine fl_Tq.stp (pc' := 19) (lv' := [some (.inr (.inr (.inl (76, 277)))), none, none]) (st' := [.inr (.inr (.inl (76, 277))), .inl (f 280 54), .inl (5 : Int32), .inr (.inr (.inl (79, 280)))]) (m' := (f, l)) rfl rfl (fl_bo rfl) rfl ?_
      refine fl_Tq.cI (c := (1 : Int32)) rfl (by decide +kernel) (fl_bo rfl) ?_
      refine fl_Tq.cal rfl rfl (fl_bo rfl) rfl ?_
      refine r_limitOf_q hn hr hk hz ?_
      show fl_Tq _ 213 23 [some (.inr (.inr (.inl (76, 277)))), none, none] [.inl (r_limitOf_v f (1 : Int32)), .inl (f 280 54), .inl (5 : Int32), .inr (.inr (.inl (79, 280)))] (f, l) _
      refine fl_Tq.stp (pc' := 24) (lv' := [some (.inr (.inr (.inl (76, 277)))), none, none]) (st' := [.inl (-(r_limitOf_v f (1 : Int32))), .inl (f 280 54), .inl (5 : Int32), .inr (.inr (.inl (79, 280)))]) (m' := (f, l)) rfl rfl (fl_bo rfl) rfl ?_
      refine fl_Tq.stp (pc' := 25) (lv' := [some (.inr (.inr (.inl (76, 277)))), none, none]) (st' := [.inr (.inr (.inl (76, 277))), .inl (-(r_limitOf_v f (1 : Int32))), .inl (f 280 54), .inl (5 : Int32), .inr (.inr (.inl (79, 280)))]) (m' := (f, l)) rfl rfl (fl_bo rfl) rfl ?_
      refine fl_Tq.cI (c := (0 : Int32)) rfl (by decide +kernel) (fl_bo rfl) ?_
      refine fl_Tq.cal rfl rfl (fl_bo rfl) rfl ?_
      refine r_limitOf_q hn hr hk hz ?_
      show fl_Tq _ 213 29 [some (.inr (.inr (.inl (76, 277)))), none, none] [.inl (r_limitOf_v f (0 : Int32)), .inl (-(r_limitOf_v f (1 : Int32))), .inl (f 280 54), .inl (5 : Int32), .inr (.inr (.inl (79, 280)))] (f, l) _
      refine fl_Tq.cal rfl rfl (fl_bo rfl) rfl ?_
      refine r_held_q  ?_
      show fl_Tq _ 213 32 [some (.inr (.inr (.inl (76, 277)))), none, none] [.inl (r_held_v (f 280 54) (-(r_limitOf_v f (1 : Int32))) (r_limitOf_v f (0 : Int32))), .inl (5 : Int32), .inr (.inr (.inl (79, 280)))] (f, l) _
      refine fl_Tq.stp (pc' := 36) (lv' := [some (.inr (.inr (.inl (76, 277)))), none, none]) (st' := [.inl (r_held_v (f 280 54) (-(r_limitOf_v f (1 : Int32))) (r_limitOf_v f (0 : Int32))), .inl (5 : Int32), .inr (.inr (.inl (79, 280)))]) (m' := (f, l)) rfl rfl (fl_bo rfl) rfl ?_
      have e0 : (r_goCurrent_j9_0 f) = r_held_v (f 280 54) (-(r_limitOf_v f (1 : Int32))) (r_limitOf_v f (0 : Int32)) := by simp only [r_goCurrent_j9_0, if_neg h1]
      rw [e0] at hJ
      exact hJ
  refine hj72 ?_
  show fl_Tq _ 213 36 [some (.inr (.inr (.inl (76, 277)))), none, none] [.inl (r_goCurrent_j9_0 f), .inl (5 : Int32), .inr (.inr (.inl (79, 280)))] (f, l) _
  refine fl_Tq.svV (p := 280) (τ := 79) (n := 29780) (z := (0, 0, 0)) (k := 5) (m' := (fl_row f 280 (upd (f 280) 5 (r_goCurrent_j9_0 f)), l)) rfl (fl_bo rfl) rfl (by decide +kernel) (by decide) (t2_upn rfl) ?_
  refine fl_Tq.stp (pc' := 38) (lv' := [some (.inr (.inr (.inl (76, 277)))), none, none]) (st' := [.inr (.inr (.inl (76, 277)))]) (m' := (fl_row f 280 (upd (f 280) 5 (r_goCurrent_j9_0 f)), l)) rfl rfl (fl_bo rfl) rfl ?_
  refine fl_Tq.cal rfl rfl (fl_bo rfl) rfl ?_
  refine r_isLive_q  ?_
  show fl_Tq _ 213 41 [some (.inr (.inr (.inl (76, 277)))), none, none] [.inl (r_isLive_v (fl_row f 280 (upd (f 280) 5 (r_goCurrent_j9_0 f))))] (fl_row f 280 (upd (f 280) 5 (r_goCurrent_j9_0 f)), l) _
  by_cases h2 : (r_isLive_v (fl_row f 280 (upd (f 280) 5 (r_goCurrent_j9_0 f)))).toInt = 0
  · refine fl_Tq.zt rfl (fl_bo rfl) (c1_eq_t h2) rfl ?_
    refine fl_Tq.ret rfl rfl rfl ?_
    unfold r_goCurrent_m at k
    simp only [if_pos h2] at k
    exact k
  · refine fl_Tq.zf rfl (fl_bo rfl) (c1_eq_f h2) rfl ?_
    refine fl_Tq.stp (pc' := 45) (lv' := [some (.inr (.inr (.inl (76, 277)))), none, none]) (st' := [.inr (.inr (.inl (76, 277)))]) (m' := (fl_row f 280 (upd (f 280) 5 (r_goCurrent_j9_0 f)), l)) rfl rfl (fl_bo rfl) rfl ?_
    refine fl_Tq.stp (pc' := 48) (lv' := [some (.inr (.inr (.inl (76, 277)))), none, none]) (st' := [.inr (.inr (.inl (79, 280)))]) (m' := (fl_row f 280 (upd (f 280) 5 (r_goCurrent_j9_0 f)), l)) rfl rfl (fl_bo rfl) rfl ?_
    refine fl_Tq.cI (c := (5 : Int32)) rfl (by decide +kernel) (fl_bo rfl) ?_
    refine fl_Tq.ldV (p := 280) (τ := 79) (n := 29780) (z := (0, 0, 0)) (k := 5) (v := r_goCurrent_j9_0 f) rfl (fl_bo rfl) rfl (by decide +kernel) (by decide) (by simp only [fl_row_self, upd_self]) ?_
    refine fl_Tq.stp (pc' := 51) (lv' := [some (.inr (.inr (.inl (76, 277)))), none, none]) (st' := [.inr (.inr (.inl (76, 277))), .inl (r_goCurrent_j9_0 f)]) (m' := (fl_row f 280 (upd (f 280) 5 (r_goCurrent_j9_0 f)), l)) rfl rfl (fl_bo rfl) rfl ?_
    refine fl_Tq.cB (c := (20 : Int32)) rfl (by decide +kernel) (fl_bo rfl) ?_
    refine fl_Tq.cal rfl rfl (fl_bo rfl) rfl ?_
    refine t2_its (W := 20) (v := f 280 54) (by decide +kernel) (by decide) (by simp only [fl_row_self, upd_ne (by decide : 54 ≠ 5)]) ?_
    show fl_Tq _ 213 56 [some (.inr (.inr (.inl (76, 277)))), none, none] [.inl (f 280 54), .inl (r_goCurrent_j9_0 f)] (fl_row f 280 (upd (f 280) 5 (r_goCurrent_j9_0 f)), l) _
    by_cases h3 : (r_goCurrent_j9_0 f).toInt = (f 280 54).toInt
    · refine fl_Tq.jf rfl (fl_bo rfl) (c2_ne_f h3) rfl ?_
      refine fl_Tq.ret rfl rfl rfl ?_
      unfold r_goCurrent_m at k
      simp only [if_neg h2, if_pos h3] at k
      exact k
    · refine fl_Tq.jt rfl (fl_bo rfl) (c2_ne_t h3) rfl ?_
      refine fl_Tq.stp (pc' := 61) (lv' := [some (.inr (.inr (.inl (76, 277)))), none, none]) (st' := [.inr (.inr (.inl (76, 277)))]) (m' := (fl_row f 280 (upd (f 280) 5 (r_goCurrent_j9_0 f)), l)) rfl rfl (fl_bo rfl) rfl ?_
      refine fl_Tq.cB (c := (20 : Int32)) rfl (by decide +kernel) (fl_bo rfl) ?_
      refine fl_Tq.cal rfl rfl (fl_bo rfl) rfl ?_
      refine t2_its (W := 20) (v := f 280 54) (by decide +kernel) (by decide) (by simp only [fl_row_self, upd_ne (by decide : 54 ≠ 5)]) ?_
      show fl_Tq _ 213 66 [some (.inr (.inr (.inl (76, 277)))), none, none] [.inl (f 280 54)] (fl_row f 280 (upd (f 280) 5 (r_goCurrent_j9_0 f)), l) _
      have hj73 : fl_Tq (pw_P L xs) 213 74 [some (.inr (.inr (.inl (76, 277)))), none, none] [.inl (r_goCurrent_j66_0 f)] (fl_row f 280 (upd (f 280) 5 (r_goCurrent_j9_0 f)), l) Q → fl_Tq (pw_P L xs) 213 66 [some (.inr (.inr (.inl (76, 277)))), none, none] [.inl (f 280 54)] (fl_row f 280 (upd (f 280) 5 (r_goCurrent_j9_0 f)), l) Q := by
        intro hJ
        by_cases h4 : 0 < (f 280 54).toInt
        · refine fl_Tq.zf rfl (fl_bo rfl) (c1_le_f h4) rfl ?_
          refine fl_Tq.cI (c := (0 : Int32)) rfl (by decide +kernel) (fl_bo rfl) ?_
          refine fl_Tq.stp (pc' := 74) (lv' := [some (.inr (.inr (.inl (76, 277)))), none, none]) (st' := [.inl (0 : Int32)]) (m' := (fl_row f 280 (upd (f 280) 5 (r_goCurrent_j9_0 f)), l)) rfl rfl (fl_bo rfl) rfl ?_
          have e0 : (r_goCurrent_j66_0 f) = (0 : Int32) := by simp only [r_goCurrent_j66_0, if_pos h4]
          rw [e0] at hJ
          exact hJ
        · refine fl_Tq.zt rfl (fl_bo rfl) (c1_le_t h4) rfl ?_
          refine fl_Tq.cI (c := (1 : Int32)) rfl (by decide +kernel) (fl_bo rfl) ?_
          have e0 : (r_goCurrent_j66_0 f) = (1 : Int32) := by simp only [r_goCurrent_j66_0, if_neg h4]
          rw [e0] at hJ
          exact hJ
      refine hj73 ?_
      show fl_Tq _ 213 74 [some (.inr (.inr (.inl (76, 277)))), none, none] [.inl (r_goCurrent_j66_0 f)] (fl_row f 280 (upd (f 280) 5 (r_goCurrent_j9_0 f)), l) _
      refine fl_Tq.stp (pc' := 75) (lv' := [some (.inr (.inr (.inl (76, 277)))), some (.inl (r_goCurrent_j66_0 f)), none]) (st' := []) (m' := (fl_row f 280 (upd (f 280) 5 (r_goCurrent_j9_0 f)), l)) rfl rfl (fl_bo rfl) rfl ?_
      refine fl_Tq.stp (pc' := 76) (lv' := [some (.inr (.inr (.inl (76, 277)))), some (.inl (r_goCurrent_j66_0 f)), none]) (st' := [.inr (.inr (.inl (76, 277)))]) (m' := (fl_row f 280 (upd (f 280) 5 (r_goCurrent_j9_0 f)), l)) rfl rfl (fl_bo rfl) rfl ?_
      refine fl_Tq.stp (pc' := 77) (lv' := [some (.inr (.inr (.inl (76, 277)))), some (.inl (r_goCurrent_j66_0 f)), none]) (st' := [.inl (r_goCurrent_j66_0 f), .inr (.inr (.inl (76, 277)))]) (m' := (fl_row f 280 (upd (f 280) 5 (r_goCurrent_j9_0 f)), l)) rfl rfl (fl_bo rfl) rfl ?_
      refine fl_Tq.cal rfl rfl (fl_bo rfl) rfl ?_
      refine r_tightest_q (by simp only [fl_row_self, upd_ne (by decide : 2 ≠ 5)]; exact hn) (t2_RS.r hr) (t2_cka.r hk (by intro j hj; simp only [upd_ne (show j ≠ 5 by omega)])) (by simp only [fl_row_self, upd_ne (by decide : 17 ≠ 5)]; exact hz) ?_
      show fl_Tq _ 213 80 [some (.inr (.inr (.inl (76, 277)))), some (.inl (r_goCurrent_j66_0 f)), none] [.inl (r_tightest_v (fl_row f 280 (upd (f 280) 5 (r_goCurrent_j9_0 f))) (r_goCurrent_j66_0 f))] (fl_row f 280 (upd (f 280) 5 (r_goCurrent_j9_0 f)), l) _
      refine fl_Tq.stp (pc' := 81) (lv' := [some (.inr (.inr (.inl (76, 277)))), some (.inl (r_goCurrent_j66_0 f)), some (.inl (r_tightest_v (fl_row f 280 (upd (f 280) 5 (r_goCurrent_j9_0 f))) (r_goCurrent_j66_0 f)))]) (st' := []) (m' := (fl_row f 280 (upd (f 280) 5 (r_goCurrent_j9_0 f)), l)) rfl rfl (fl_bo rfl) rfl ?_
      refine fl_Tq.stp (pc' := 82) (lv' := [some (.inr (.inr (.inl (76, 277)))), some (.inl (r_goCurrent_j66_0 f)), some (.inl (r_tightest_v (fl_row f 280 (upd (f 280) 5 (r_goCurrent_j9_0 f))) (r_goCurrent_j66_0 f)))]) (st' := [.inl (r_tightest_v (fl_row f 280 (upd (f 280) 5 (r_goCurrent_j9_0 f))) (r_goCurrent_j66_0 f))]) (m' := (fl_row f 280 (upd (f 280) 5 (r_goCurrent_j9_0 f)), l)) rfl rfl (fl_bo rfl) rfl ?_
      refine fl_Tq.cI (c := (-1 : Int32)) rfl (by decide +kernel) (fl_bo rfl) ?_
      have hj74 : fl_Tq (pw_P L xs) 213 116 [some (.inr (.inr (.inl (76, 277)))), some (.inl (r_goCurrent_j66_0 f)), some (.inl (r_tightest_v (fl_row f 280 (upd (f 280) 5 (r_goCurrent_j9_0 f))) (r_goCurrent_j66_0 f)))] [] (fl_row f 280 (upd (upd (f 280) 5 (r_goCurrent_j9_0 f)) (444 + 61 * ((r_tightest_v (fl_row f 280 (upd (f 280) 5 (r_goCurrent_j9_0 f))) (r_goCurrent_j66_0 f)).toInt.toNat) + 60) (r_goCurrent_j83_0 f)), l) Q → fl_Tq (pw_P L xs) 213 83 [some (.inr (.inr (.inl (76, 277)))), some (.inl (r_goCurrent_j66_0 f)), some (.inl (r_tightest_v (fl_row f 280 (upd (f 280) 5 (r_goCurrent_j9_0 f))) (r_goCurrent_j66_0 f)))] [.inl (-1 : Int32), .inl (r_tightest_v (fl_row f 280 (upd (f 280) 5 (r_goCurrent_j9_0 f))) (r_goCurrent_j66_0 f))] (fl_row f 280 (upd (f 280) 5 (r_goCurrent_j9_0 f)), l) Q := by
        intro hJ
        by_cases h5 : (r_tightest_v (fl_row f 280 (upd (f 280) 5 (r_goCurrent_j9_0 f))) (r_goCurrent_j66_0 f)).toInt = (-1 : Int32).toInt
        · refine fl_Tq.jt rfl (fl_bo rfl) (c2_eq_t h5) rfl ?_
          have e0 : (fl_row f 280 (upd (upd (f 280) 5 (r_goCurrent_j9_0 f)) (444 + 61 * ((r_tightest_v (fl_row f 280 (upd (f 280) 5 (r_goCurrent_j9_0 f))) (r_goCurrent_j66_0 f)).toInt.toNat) + 60) (r_goCurrent_j83_0 f))) = fl_row f 280 (upd (f 280) 5 (r_goCurrent_j9_0 f)) := by
            simp only [r_goCurrent_j83_0, if_pos h5]
            funext q j
            simp only [fl_row, upd]
            repeat' split
            all_goals first | rfl | simp_all
          rw [e0] at hJ
          exact hJ
        · refine fl_Tq.jf rfl (fl_bo rfl) (c2_eq_f h5) rfl ?_
          refine fl_Tq.stp (pc' := 87) (lv' := [some (.inr (.inr (.inl (76, 277)))), some (.inl (r_goCurrent_j66_0 f)), some (.inl (r_tightest_v (fl_row f 280 (upd (f 280) 5 (r_goCurrent_j9_0 f))) (r_goCurrent_j66_0 f)))]) (st' := [.inr (.inr (.inl (76, 277)))]) (m' := (fl_row f 280 (upd (f 280) 5 (r_goCurrent_j9_0 f)), l)) rfl rfl (fl_bo rfl) rfl ?_
          refine fl_Tq.stp (pc' := 88) (lv' := [some (.inr (.inr (.inl (76, 277)))), some (.inl (r_goCurrent_j66_0 f)), some (.inl (r_tightest_v (fl_row f 280 (upd (f 280) 5 (r_goCurrent_j9_0 f))) (r_goCurrent_j66_0 f)))]) (st' := [.inl (r_tightest_v (fl_row f 280 (upd (f 280) 5 (r_goCurrent_j9_0 f))) (r_goCurrent_j66_0 f)), .inr (.inr (.inl (76, 277)))]) (m' := (fl_row f 280 (upd (f 280) 5 (r_goCurrent_j9_0 f)), l)) rfl rfl (fl_bo rfl) rfl ?_
          refine fl_Tq.stp (pc' := 89) (lv' := [some (.inr (.inr (.inl (76, 277)))), some (.inl (r_goCurrent_j66_0 f)), some (.inl (r_tightest_v (fl_row f 280 (upd (f 280) 5 (r_goCurrent_j9_0 f))) (r_goCurrent_j66_0 f)))]) (st' := [.inl (r_goCurrent_j66_0 f), .inl (r_tightest_v (fl_row f 280 (upd (f 280) 5 (r_goCurrent_j9_0 f))) (r_goCurrent_j66_0 f)), .inr (.inr (.inl (76, 277)))]) (m' := (fl_row f 280 (upd (f 280) 5 (r_goCurrent_j9_0 f)), l)) rfl rfl (fl_bo rfl) rfl ?_
          refine fl_Tq.cal rfl rfl (fl_bo rfl) rfl ?_
          refine r_limitBy_q (t2_nn (by have e1 : (-1 : Int32).toInt = -1 := (by decide +kernel); have := r_tightest_vb (f := (fl_row f 280 (upd (f 280) 5 (r_goCurrent_j9_0 f)))) (x := (r_goCurrent_j66_0 f)) (by simp only [fl_row_self, upd_ne (by decide : 2 ≠ 5)]; exact hn); omega)) (by have e1 : (-1 : Int32).toInt = -1 := (by decide +kernel); have h16 := hn; have := r_tightest_vb (f := (fl_row f 280 (upd (f 280) 5 (r_goCurrent_j9_0 f)))) (x := (r_goCurrent_j66_0 f)) (by simp only [fl_row_self, upd_ne (by decide : 2 ≠ 5)]; exact hn); have e2 : ((fl_row f 280 (upd (f 280) 5 (r_goCurrent_j9_0 f))) 280 2).toInt = (f 280 2).toInt := (by rw [fl_row_self, upd_ne (by decide : 2 ≠ 5)]); omega) (t2_RS.r hr) ((t2_cka.r hk (by intro j hj; simp only [upd_ne (show j ≠ 5 by omega)])) ((r_tightest_v (fl_row f 280 (upd (f 280) 5 (r_goCurrent_j9_0 f))) (r_goCurrent_j66_0 f)).toInt.toNat) (by have e1 : (-1 : Int32).toInt = -1 := (by decide +kernel); have := r_tightest_vb (f := (fl_row f 280 (upd (f 280) 5 (r_goCurrent_j9_0 f)))) (x := (r_goCurrent_j66_0 f)) (by simp only [fl_row_self, upd_ne (by decide : 2 ≠ 5)]; exact hn); omega)) (by simp only [fl_row_self, upd_ne (by decide : 17 ≠ 5)]; exact hz) ?_
          show fl_Tq _ 213 92 [some (.inr (.inr (.inl (76, 277)))), some (.inl (r_goCurrent_j66_0 f)), some (.inl (r_tightest_v (fl_row f 280 (upd (f 280) 5 (r_goCurrent_j9_0 f))) (r_goCurrent_j66_0 f)))] [.inl (r_limitBy_v (fl_row f 280 (upd (f 280) 5 (r_goCurrent_j9_0 f))) (r_tightest_v (fl_row f 280 (upd (f 280) 5 (r_goCurrent_j9_0 f))) (r_goCurrent_j66_0 f)) ((r_tightest_v (fl_row f 280 (upd (f 280) 5 (r_goCurrent_j9_0 f))) (r_goCurrent_j66_0 f)).toInt.toNat) (r_goCurrent_j66_0 f))] (fl_row f 280 (upd (f 280) 5 (r_goCurrent_j9_0 f)), l) _
          refine fl_Tq.stp (pc' := 93) (lv' := [some (.inr (.inr (.inl (76, 277)))), some (.inl (r_goCurrent_j66_0 f)), some (.inl (r_tightest_v (fl_row f 280 (upd (f 280) 5 (r_goCurrent_j9_0 f))) (r_goCurrent_j66_0 f)))]) (st' := [.inr (.inr (.inl (76, 277))), .inl (r_limitBy_v (fl_row f 280 (upd (f 280) 5 (r_goCurrent_j9_0 f))) (r_tightest_v (fl_row f 280 (upd (f 280) 5 (r_goCurrent_j9_0 f))) (r_goCurrent_j66_0 f)) ((r_tightest_v (fl_row f 280 (upd (f 280) 5 (r_goCurrent_j9_0 f))) (r_goCurrent_j66_0 f)).toInt.toNat) (r_goCurrent_j66_0 f))]) (m' := (fl_row f 280 (upd (f 280) 5 (r_goCurrent_j9_0 f)), l)) rfl rfl (fl_bo rfl) rfl ?_
          refine fl_Tq.cI (c := (4 : Int32)) rfl (by decide +kernel) (fl_bo rfl) ?_
          refine fl_Tq.cal rfl rfl (fl_bo rfl) rfl ?_
          refine t2_its (W := 4) (v := f 280 38) (by decide +kernel) (by decide) (by simp only [fl_row_self, upd_ne (by decide : 38 ≠ 5)]) ?_
          show fl_Tq _ 213 97 [some (.inr (.inr (.inl (76, 277)))), some (.inl (r_goCurrent_j66_0 f)), some (.inl (r_tightest_v (fl_row f 280 (upd (f 280) 5 (r_goCurrent_j9_0 f))) (r_goCurrent_j66_0 f)))] [.inl (f 280 38), .inl (r_limitBy_v (fl_row f 280 (upd (f 280) 5 (r_goCurrent_j9_0 f))) (r_tightest_v (fl_row f 280 (upd (f 280) 5 (r_goCurrent_j9_0 f))) (r_goCurrent_j66_0 f)) ((r_tightest_v (fl_row f 280 (upd (f 280) 5 (r_goCurrent_j9_0 f))) (r_goCurrent_j66_0 f)).toInt.toNat) (r_goCurrent_j66_0 f))] (fl_row f 280 (upd (f 280) 5 (r_goCurrent_j9_0 f)), l) _
          by_cases h6 : (f 280 38).toInt < (r_limitBy_v (fl_row f 280 (upd (f 280) 5 (r_goCurrent_j9_0 f))) (r_tightest_v (fl_row f 280 (upd (f 280) 5 (r_goCurrent_j9_0 f))) (r_goCurrent_j66_0 f)) ((r_tightest_v (fl_row f 280 (upd (f 280) 5 (r_goCurrent_j9_0 f))) (r_goCurrent_j66_0 f)).toInt.toNat) (r_goCurrent_j66_0 f)).toInt
          · refine fl_Tq.jt rfl (fl_bo rfl) (c2_gt_t h6) rfl ?_
            have e0 : (fl_row f 280 (upd (upd (f 280) 5 (r_goCurrent_j9_0 f)) (444 + 61 * ((r_tightest_v (fl_row f 280 (upd (f 280) 5 (r_goCurrent_j9_0 f))) (r_goCurrent_j66_0 f)).toInt.toNat) + 60) (r_goCurrent_j83_0 f))) = fl_row f 280 (upd (f 280) 5 (r_goCurrent_j9_0 f)) := by
              simp only [r_goCurrent_j83_0, if_neg h5, if_pos h6]
              funext q j
              simp only [fl_row, upd]
              repeat' split
              all_goals first | rfl | simp_all
            rw [e0] at hJ
            exact hJ
          · refine fl_Tq.jf rfl (fl_bo rfl) (c2_gt_f h6) rfl ?_
            refine fl_Tq.stp (pc' := 101) (lv' := [some (.inr (.inr (.inl (76, 277)))), some (.inl (r_goCurrent_j66_0 f)), some (.inl (r_tightest_v (fl_row f 280 (upd (f 280) 5 (r_goCurrent_j9_0 f))) (r_goCurrent_j66_0 f)))]) (st' := [.inr (.inr (.inl (76, 277)))]) (m' := (fl_row f 280 (upd (f 280) 5 (r_goCurrent_j9_0 f)), l)) rfl rfl (fl_bo rfl) rfl ?_
            refine fl_Tq.stp (pc' := 102) (lv' := [some (.inr (.inr (.inl (76, 277)))), some (.inl (r_goCurrent_j66_0 f)), some (.inl (r_tightest_v (fl_row f 280 (upd (f 280) 5 (r_goCurrent_j9_0 f))) (r_goCurrent_j66_0 f)))]) (st' := [.inl (r_tightest_v (fl_row f 280 (upd (f 280) 5 (r_goCurrent_j9_0 f))) (r_goCurrent_j66_0 f)), .inr (.inr (.inl (76, 277)))]) (m' := (fl_row f 280 (upd (f 280) 5 (r_goCurrent_j9_0 f)), l)) rfl rfl (fl_bo rfl) rfl ?_
            refine fl_Tq.cB (c := (60 : Int32)) rfl (by decide +kernel) (fl_bo rfl) ?_
            refine fl_Tq.stp (pc' := 105) (lv' := [some (.inr (.inr (.inl (76, 277)))), some (.inl (r_goCurrent_j66_0 f)), some (.inl (r_tightest_v (fl_row f 280 (upd (f 280) 5 (r_goCurrent_j9_0 f))) (r_goCurrent_j66_0 f)))]) (st' := [.inr (.inr (.inl (76, 277))), .inl (60 : Int32), .inl (r_tightest_v (fl_row f 280 (upd (f 280) 5 (r_goCurrent_j9_0 f))) (r_goCurrent_j66_0 f)), .inr (.inr (.inl (76, 277)))]) (m' := (fl_row f 280 (upd (f 280) 5 (r_goCurrent_j9_0 f)), l)) rfl rfl (fl_bo rfl) rfl ?_
            refine fl_Tq.stp (pc' := 106) (lv' := [some (.inr (.inr (.inl (76, 277)))), some (.inl (r_goCurrent_j66_0 f)), some (.inl (r_tightest_v (fl_row f 280 (upd (f 280) 5 (r_goCurrent_j9_0 f))) (r_goCurrent_j66_0 f)))]) (st' := [.inl (r_tightest_v (fl_row f 280 (upd (f 280) 5 (r_goCurrent_j9_0 f))) (r_goCurrent_j66_0 f)), .inr (.inr (.inl (76, 277))), .inl (60 : Int32), .inl (r_tightest_v (fl_row f 280 (upd (f 280) 5 (r_goCurrent_j9_0 f))) (r_goCurrent_j66_0 f)), .inr (.inr (.inl (76, 277)))]) (m' := (fl_row f 280 (upd (f 280) 5 (r_goCurrent_j9_0 f)), l)) rfl rfl (fl_bo rfl) rfl ?_
            refine fl_Tq.cB (c := (60 : Int32)) rfl (by decide +kernel) (fl_bo rfl) ?_
            refine fl_Tq.cal rfl rfl (fl_bo rfl) rfl ?_
            refine t2_get (C := (r_tightest_v (fl_row f 280 (upd (f 280) 5 (r_goCurrent_j9_0 f))) (r_goCurrent_j66_0 f)).toInt.toNat) (W := 60) (v := f 280 (444 + 61 * ((r_tightest_v (fl_row f 280 (upd (f 280) 5 (r_goCurrent_j9_0 f))) (r_goCurrent_j66_0 f)).toInt.toNat) + 60)) (t2_nn (by have e1 : (-1 : Int32).toInt = -1 := (by decide +kernel); have := r_tightest_vb (f := (fl_row f 280 (upd (f 280) 5 (r_goCurrent_j9_0 f)))) (x := (r_goCurrent_j66_0 f)) (by simp only [fl_row_self, upd_ne (by decide : 2 ≠ 5)]; exact hn); omega)) (by decide +kernel) (by have e1 : (-1 : Int32).toInt = -1 := (by decide +kernel); have h16 := hn; have := r_tightest_vb (f := (fl_row f 280 (upd (f 280) 5 (r_goCurrent_j9_0 f)))) (x := (r_goCurrent_j66_0 f)) (by simp only [fl_row_self, upd_ne (by decide : 2 ≠ 5)]; exact hn); have e2 : ((fl_row f 280 (upd (f 280) 5 (r_goCurrent_j9_0 f))) 280 2).toInt = (f 280 2).toInt := (by rw [fl_row_self, upd_ne (by decide : 2 ≠ 5)]); omega) (by decide) (by simp only [fl_row_self, upd_ne (by omega : 444 + 61 * ((r_tightest_v (fl_row f 280 (upd (f 280) 5 (r_goCurrent_j9_0 f))) (r_goCurrent_j66_0 f)).toInt.toNat) + 60 ≠ 5)]) ?_
            show fl_Tq _ 213 111 [some (.inr (.inr (.inl (76, 277)))), some (.inl (r_goCurrent_j66_0 f)), some (.inl (r_tightest_v (fl_row f 280 (upd (f 280) 5 (r_goCurrent_j9_0 f))) (r_goCurrent_j66_0 f)))] [.inl (f 280 (444 + 61 * ((r_tightest_v (fl_row f 280 (upd (f 280) 5 (r_goCurrent_j9_0 f))) (r_goCurrent_j66_0 f)).toInt.toNat) + 60)), .inl (60 : Int32), .inl (r_tightest_v (fl_row f 280 (upd (f 280) 5 (r_goCurrent_j9_0 f))) (r_goCurrent_j66_0 f)), .inr (.inr (.inl (76, 277)))] (fl_row f 280 (upd (f 280) 5 (r_goCurrent_j9_0 f)), l) _
            refine fl_Tq.cI (c := (1 : Int32)) rfl (by decide +kernel) (fl_bo rfl) ?_
            refine fl_Tq.stp (pc' := 113) (lv' := [some (.inr (.inr (.inl (76, 277)))), some (.inl (r_goCurrent_j66_0 f)), some (.inl (r_tightest_v (fl_row f 280 (upd (f 280) 5 (r_goCurrent_j9_0 f))) (r_goCurrent_j66_0 f)))]) (st' := [.inl ((f 280 (444 + 61 * ((r_tightest_v (fl_row f 280 (upd (f 280) 5 (r_goCurrent_j9_0 f))) (r_goCurrent_j66_0 f)).toInt.toNat) + 60)) + (1 : Int32)), .inl (60 : Int32), .inl (r_tightest_v (fl_row f 280 (upd (f 280) 5 (r_goCurrent_j9_0 f))) (r_goCurrent_j66_0 f)), .inr (.inr (.inl (76, 277)))]) (m' := (fl_row f 280 (upd (f 280) 5 (r_goCurrent_j9_0 f)), l)) rfl rfl (fl_bo rfl) rfl ?_
            refine fl_Tq.cal rfl rfl (fl_bo rfl) rfl ?_
            refine t2_let (C := (r_tightest_v (fl_row f 280 (upd (f 280) 5 (r_goCurrent_j9_0 f))) (r_goCurrent_j66_0 f)).toInt.toNat) (W := 60) (m' := (fl_row f 280 (upd (upd (f 280) 5 (r_goCurrent_j9_0 f)) (444 + 61 * ((r_tightest_v (fl_row f 280 (upd (f 280) 5 (r_goCurrent_j9_0 f))) (r_goCurrent_j66_0 f)).toInt.toNat) + 60) ((f 280 (444 + 61 * ((r_tightest_v (fl_row f 280 (upd (f 280) 5 (r_goCurrent_j9_0 f))) (r_goCurrent_j66_0 f)).toInt.toNat) + 60)) + (1 : Int32))), l)) (t2_nn (by have e1 : (-1 : Int32).toInt = -1 := (by decide +kernel); have := r_tightest_vb (f := (fl_row f 280 (upd (f 280) 5 (r_goCurrent_j9_0 f)))) (x := (r_goCurrent_j66_0 f)) (by simp only [fl_row_self, upd_ne (by decide : 2 ≠ 5)]; exact hn); omega)) (by decide +kernel) (by have e1 : (-1 : Int32).toInt = -1 := (by decide +kernel); have h16 := hn; have := r_tightest_vb (f := (fl_row f 280 (upd (f 280) 5 (r_goCurrent_j9_0 f)))) (x := (r_goCurrent_j66_0 f)) (by simp only [fl_row_self, upd_ne (by decide : 2 ≠ 5)]; exact hn); have e2 : ((fl_row f 280 (upd (f 280) 5 (r_goCurrent_j9_0 f))) 280 2).toInt = (f 280 2).toInt := (by rw [fl_row_self, upd_ne (by decide : 2 ≠ 5)]); omega) (by decide) (t2_upr) ?_
            show fl_Tq _ 213 116 [some (.inr (.inr (.inl (76, 277)))), some (.inl (r_goCurrent_j66_0 f)), some (.inl (r_tightest_v (fl_row f 280 (upd (f 280) 5 (r_goCurrent_j9_0 f))) (r_goCurrent_j66_0 f)))] [] (fl_row f 280 (upd (upd (f 280) 5 (r_goCurrent_j9_0 f)) (444 + 61 * ((r_tightest_v (fl_row f 280 (upd (f 280) 5 (r_goCurrent_j9_0 f))) (r_goCurrent_j66_0 f)).toInt.toNat) + 60) ((f 280 (444 + 61 * ((r_tightest_v (fl_row f 280 (upd (f 280) 5 (r_goCurrent_j9_0 f))) (r_goCurrent_j66_0 f)).toInt.toNat) + 60)) + (1 : Int32))), l) _
            have e0 : (fl_row f 280 (upd (upd (f 280) 5 (r_goCurrent_j9_0 f)) (444 + 61 * ((r_tightest_v (fl_row f 280 (upd (f 280) 5 (r_goCurrent_j9_0 f))) (r_goCurrent_j66_0 f)).toInt.toNat) + 60) (r_goCurrent_j83_0 f))) = fl_row f 280 (upd (upd (f 280) 5 (r_goCurrent_j9_0 f)) (444 + 61 * ((r_tightest_v (fl_row f 280 (upd (f 280) 5 (r_goCurrent_j9_0 f))) (r_goCurrent_j66_0 f)).toInt.toNat) + 60) ((f 280 (444 + 61 * ((r_tightest_v (fl_row f 280 (upd (f 280) 5 (r_goCurrent_j9_0 f))) (r_goCurrent_j66_0 f)).toInt.toNat) + 60)) + (1 : Int32))) := by
              simp only [r_goCurrent_j83_0, if_neg h5, if_neg h6]
            rw [e0] at hJ
            exact hJ
      refine hj74 ?_
      show fl_Tq _ 213 116 [some (.inr (.inr (.inl (76, 277)))), some (.inl (r_goCurrent_j66_0 f)), some (.inl (r_tightest_v (fl_row f 280 (upd (f 280) 5 (r_goCurrent_j9_0 f))) (r_goCurrent_j66_0 f)))] [] (fl_row f 280 (upd (upd (f 280) 5 (r_goCurrent_j9_0 f)) (444 + 61 * ((r_tightest_v (fl_row f 280 (upd (f 280) 5 (r_goCurrent_j9_0 f))) (r_goCurrent_j66_0 f)).toInt.toNat) + 60) (r_goCurrent_j83_0 f)), l) _
      refine fl_Tq.ret rfl rfl rfl ?_
      unfold r_goCurrent_m at k
      simp only [if_neg h2, if_neg h3] at k
      exact k
noncomputable def r_touch_m (f : t2_F) (c : Int32) (C : Nat) : t2_F := fl_row f 280 (upd (upd (f 280) (444 + 61 * C + 3) ((f 280 (444 + 61 * C + 3)) + ((((f 280 (444 + 61 * (C + 1) + 3)) - (f 280 (444 + 61 * C + 3))) * (f 280 56)) / (256 : Int32)))) (444 + 61 * (C + 1) + 3) ((f 280 (444 + 61 * (C + 1) + 3)) - ((((f 280 (444 + 61 * (C + 1) + 3)) - (f 280 (444 + 61 * C + 3))) * (f 280 56)) / (256 : Int32))))
theorem r_touch_fr {f : t2_F} {c : Int32} {C : Nat} {p : Nat}  (e280 : p ≠ 280) : r_touch_m f c C p = f p := by
  unfold r_touch_m
  repeat' split
  all_goals first | rfl | simp only [fl_row_ne e280]
theorem r_touch_w {f : t2_F} {c : Int32} {C : Nat} {w : Nat} (e0 : w ≠ 444 + 61 * C + 3) (e1 : w ≠ 444 + 61 * (C + 1) + 3) : r_touch_m f c C 280 w = f 280 w := by
  unfold r_touch_m
  repeat' split
  all_goals first | rfl | simp only [fl_row_self, upd_ne e0, upd_ne e1]
theorem r_touch_q {L : Nat} {xs : Nat → Int32} {f : t2_F} {l : t2_L} {Q : Option fl_V → fl_M → Prop} {c : Int32} {C : Nat} (hc : c.toInt = (C : Int)) (hC : C < 16) (hC1 : C + 1 < 16) (k : Q none (r_touch_m f c C, l)) : fl_Tq (pw_P L xs) 216 0 (fl_args (am_mxl (pw_P L xs) 216) [.inr (.inr (.inl (76, 277))), .inl c]) [] (f, l) Q := by
  refine fl_Tq.stp (pc' := 1) (lv' := [some (.inr (.inr (.inl (76, 277)))), some (.inl c), none]) (st' := [.inr (.inr (.inl (76, 277)))]) (m' := (f, l)) rfl rfl (fl_bo rfl) rfl ?_
  refine fl_Tq.stp (pc' := 2) (lv' := [some (.inr (.inr (.inl (76, 277)))), some (.inl c), none]) (st' := [.inl c, .inr (.inr (.inl (76, 277)))]) (m' := (f, l)) rfl rfl (fl_bo rfl) rfl ?_
  refine fl_Tq.cI (c := (1 : Int32)) rfl (by decide +kernel) (fl_bo rfl) ?_
  refine fl_Tq.stp (pc' := 4) (lv' := [some (.inr (.inr (.inl (76, 277)))), some (.inl c), none]) (st' := [.inl (c + (1 : Int32)), .inr (.inr (.inl (76, 277)))]) (m' := (f, l)) rfl rfl (fl_bo rfl) rfl ?_
  refine fl_Tq.cI (c := (3 : Int32)) rfl (by decide +kernel) (fl_bo rfl) ?_
  refine fl_Tq.cal rfl rfl (fl_bo rfl) rfl ?_
  refine t2_get (C := (C + 1)) (W := 3) (v := f 280 (444 + 61 * (C + 1) + 3)) (t2_ia hc (by decide +kernel) (by omega)) (by decide +kernel) hC1 (by decide) rfl ?_
  show fl_Tq _ 216 8 [some (.inr (.inr (.inl (76, 277)))), some (.inl c), none] [.inl (f 280 (444 + 61 * (C + 1) + 3))] (f, l) _
  refine fl_Tq.stp (pc' := 9) (lv' := [some (.inr (.inr (.inl (76, 277)))), some (.inl c), none]) (st' := [.inr (.inr (.inl (76, 277))), .inl (f 280 (444 + 61 * (C + 1) + 3))]) (m' := (f, l)) rfl rfl (fl_bo rfl) rfl ?_
  refine fl_Tq.stp (pc' := 10) (lv' := [some (.inr (.inr (.inl (76, 277)))), some (.inl c), none]) (st' := [.inl c, .inr (.inr (.inl (76, 277))), .inl (f 280 (444 + 61 * (C + 1) + 3))]) (m' := (f, l)) rfl rfl (fl_bo rfl) rfl ?_
  refine fl_Tq.cI (c := (3 : Int32)) rfl (by decide +kernel) (fl_bo rfl) ?_
  refine fl_Tq.cal rfl rfl (fl_bo rfl) rfl ?_
  refine t2_get (C := C) (W := 3) (v := f 280 (444 + 61 * C + 3)) hc (by decide +kernel) hC (by decide) rfl ?_
  show fl_Tq _ 216 14 [some (.inr (.inr (.inl (76, 277)))), some (.inl c), none] [.inl (f 280 (444 + 61 * C + 3)), .inl (f 280 (444 + 61 * (C + 1) + 3))] (f, l) _
  refine fl_Tq.stp (pc' := 15) (lv' := [some (.inr (.inr (.inl (76, 277)))), some (.inl c), none]) (st' := [.inl ((f 280 (444 + 61 * (C + 1) + 3)) - (f 280 (444 + 61 * C + 3)))]) (m' := (f, l)) rfl rfl (fl_bo rfl) rfl ?_
  refine fl_Tq.stp (pc' := 16) (lv' := [some (.inr (.inr (.inl (76, 277)))), some (.inl c), none]) (st' := [.inr (.inr (.inl (76, 277))), .inl ((f 280 (444 + 61 * (C + 1) + 3)) - (f 280 (444 + 61 * C + 3)))]) (m' := (f, l)) rfl rfl (fl_bo rfl) rfl ?_
  refine fl_Tq.cB (c := (22 : Int32)) rfl (by decide +kernel) (fl_bo rfl) ?_
  refine fl_Tq.cal rfl rfl (fl_bo rfl) rfl ?_
  refine t2_its (W := 22) (v := f 280 56) (by decide +kernel) (by decide) rfl ?_
  show fl_Tq _ 216 21 [some (.inr (.inr (.inl (76, 277)))), some (.inl c), none] [.inl (f 280 56), .inl ((f 280 (444 + 61 * (C + 1) + 3)) - (f 280 (444 + 61 * C + 3)))] (f, l) _
  refine fl_Tq.stp (pc' := 22) (lv' := [some (.inr (.inr (.inl (76, 277)))), some (.inl c), none]) (st' := [.inl (((f 280 (444 + 61 * (C + 1) + 3)) - (f 280 (444 + 61 * C + 3))) * (f 280 56))]) (m' := (f, l)) rfl rfl (fl_bo rfl) rfl ?_
  refine fl_Tq.cS (c := (256 : Int32)) rfl (by decide +kernel) (fl_bo rfl) ?_
  refine fl_Tq.dv rfl (fl_bo rfl) (by decide +kernel) ?_
  refine fl_Tq.stp (pc' := 27) (lv' := [some (.inr (.inr (.inl (76, 277)))), some (.inl c), some (.inl ((((f 280 (444 + 61 * (C + 1) + 3)) - (f 280 (444 + 61 * C + 3))) * (f 280 56)) / (256 : Int32)))]) (st' := []) (m' := (f, l)) rfl rfl (fl_bo rfl) rfl ?_
  refine fl_Tq.stp (pc' := 28) (lv' := [some (.inr (.inr (.inl (76, 277)))), some (.inl c), some (.inl ((((f 280 (444 + 61 * (C + 1) + 3)) - (f 280 (444 + 61 * C + 3))) * (f 280 56)) / (256 : Int32)))]) (st' := [.inr (.inr (.inl (76, 277)))]) (m' := (f, l)) rfl rfl (fl_bo rfl) rfl ?_
  refine fl_Tq.stp (pc' := 29) (lv' := [some (.inr (.inr (.inl (76, 277)))), some (.inl c), some (.inl ((((f 280 (444 + 61 * (C + 1) + 3)) - (f 280 (444 + 61 * C + 3))) * (f 280 56)) / (256 : Int32)))]) (st' := [.inl c, .inr (.inr (.inl (76, 277)))]) (m' := (f, l)) rfl rfl (fl_bo rfl) rfl ?_
  refine fl_Tq.cI (c := (3 : Int32)) rfl (by decide +kernel) (fl_bo rfl) ?_
  refine fl_Tq.stp (pc' := 31) (lv' := [some (.inr (.inr (.inl (76, 277)))), some (.inl c), some (.inl ((((f 280 (444 + 61 * (C + 1) + 3)) - (f 280 (444 + 61 * C + 3))) * (f 280 56)) / (256 : Int32)))]) (st' := [.inr (.inr (.inl (76, 277))), .inl (3 : Int32), .inl c, .inr (.inr (.inl (76, 277)))]) (m' := (f, l)) rfl rfl (fl_bo rfl) rfl ?_
  refine fl_Tq.stp (pc' := 32) (lv' := [some (.inr (.inr (.inl (76, 277)))), some (.inl c), some (.inl ((((f 280 (444 + 61 * (C + 1) + 3)) - (f 280 (444 + 61 * C + 3))) * (f 280 56)) / (256 : Int32)))]) (st' := [.inl c, .inr (.inr (.inl (76, 277))), .inl (3 : Int32), .inl c, .inr (.inr (.inl (76, 277)))]) (m' := (f, l)) rfl rfl (fl_bo rfl) rfl ?_
  refine fl_Tq.cI (c := (3 : Int32)) rfl (by decide +kernel) (fl_bo rfl) ?_
  refine fl_Tq.cal rfl rfl (fl_bo rfl) rfl ?_
  refine t2_get (C := C) (W := 3) (v := f 280 (444 + 61 * C + 3)) hc (by decide +kernel) hC (by decide) rfl ?_
  show fl_Tq _ 216 36 [some (.inr (.inr (.inl (76, 277)))), some (.inl c), some (.inl ((((f 280 (444 + 61 * (C + 1) + 3)) - (f 280 (444 + 61 * C + 3))) * (f 280 56)) / (256 : Int32)))] [.inl (f 280 (444 + 61 * C + 3)), .inl (3 : Int32), .inl c, .inr (.inr (.inl (76, 277)))] (f, l) _
  refine fl_Tq.stp (pc' := 37) (lv' := [some (.inr (.inr (.inl (76, 277)))), some (.inl c), some (.inl ((((f 280 (444 + 61 * (C + 1) + 3)) - (f 280 (444 + 61 * C + 3))) * (f 280 56)) / (256 : Int32)))]) (st' := [.inl ((((f 280 (444 + 61 * (C + 1) + 3)) - (f 280 (444 + 61 * C + 3))) * (f 280 56)) / (256 : Int32)), .inl (f 280 (444 + 61 * C + 3)), .inl (3 : Int32), .inl c, .inr (.inr (.inl (76, 277)))]) (m' := (f, l)) rfl rfl (fl_bo rfl) rfl ?_
  refine fl_Tq.stp (pc' := 38) (lv' := [some (.inr (.inr (.inl (76, 277)))), some (.inl c), some (.inl ((((f 280 (444 + 61 * (C + 1) + 3)) - (f 280 (444 + 61 * C + 3))) * (f 280 56)) / (256 : Int32)))]) (st' := [.inl ((f 280 (444 + 61 * C + 3)) + ((((f 280 (444 + 61 * (C + 1) + 3)) - (f 280 (444 + 61 * C + 3))) * (f 280 56)) / (256 : Int32))), .inl (3 : Int32), .inl c, .inr (.inr (.inl (76, 277)))]) (m' := (f, l)) rfl rfl (fl_bo rfl) rfl ?_
  refine fl_Tq.cal rfl rfl (fl_bo rfl) rfl ?_
  refine t2_let (C := C) (W := 3) (m' := (fl_row f 280 (upd (f 280) (444 + 61 * C + 3) ((f 280 (444 + 61 * C + 3)) + ((((f 280 (444 + 61 * (C + 1) + 3)) - (f 280 (444 + 61 * C + 3))) * (f 280 56)) / (256 : Int32)))), l)) hc (by decide +kernel) hC (by decide) (t2_upn rfl) ?_
  show fl_Tq _ 216 41 [some (.inr (.inr (.inl (76, 277)))), some (.inl c), some (.inl ((((f 280 (444 + 61 * (C + 1) + 3)) - (f 280 (444 + 61 * C + 3))) * (f 280 56)) / (256 : Int32)))] [] (fl_row f 280 (upd (f 280) (444 + 61 * C + 3) ((f 280 (444 + 61 * C + 3)) + ((((f 280 (444 + 61 * (C + 1) + 3)) - (f 280 (444 + 61 * C + 3))) * (f 280 56)) / (256 : Int32)))), l) _
  refine fl_Tq.stp (pc' := 42) (lv' := [some (.inr (.inr (.inl (76, 277)))), some (.inl c), some (.inl ((((f 280 (444 + 61 * (C + 1) + 3)) - (f 280 (444 + 61 * C + 3))) * (f 280 56)) / (256 : Int32)))]) (st' := [.inr (.inr (.inl (76, 277)))]) (m' := (fl_row f 280 (upd (f 280) (444 + 61 * C + 3) ((f 280 (444 + 61 * C + 3)) + ((((f 280 (444 + 61 * (C + 1) + 3)) - (f 280 (444 + 61 * C + 3))) * (f 280 56)) / (256 : Int32)))), l)) rfl rfl (fl_bo rfl) rfl ?_
  refine fl_Tq.stp (pc' := 43) (lv' := [some (.inr (.inr (.inl (76, 277)))), some (.inl c), some (.inl ((((f 280 (444 + 61 * (C + 1) + 3)) - (f 280 (444 + 61 * C + 3))) * (f 280 56)) / (256 : Int32)))]) (st' := [.inl c, .inr (.inr (.inl (76, 277)))]) (m' := (fl_row f 280 (upd (f 280) (444 + 61 * C + 3) ((f 280 (444 + 61 * C + 3)) + ((((f 280 (444 + 61 * (C + 1) + 3)) - (f 280 (444 + 61 * C + 3))) * (f 280 56)) / (256 : Int32)))), l)) rfl rfl (fl_bo rfl) rfl ?_
  refine fl_Tq.cI (c := (1 : Int32)) rfl (by decide +kernel) (fl_bo rfl) ?_
  refine fl_Tq.stp (pc' := 45) (lv' := [some (.inr (.inr (.inl (76, 277)))), some (.inl c), some (.inl ((((f 280 (444 + 61 * (C + 1) + 3)) - (f 280 (444 + 61 * C + 3))) * (f 280 56)) / (256 : Int32)))]) (st' := [.inl (c + (1 : Int32)), .inr (.inr (.inl (76, 277)))]) (m' := (fl_row f 280 (upd (f 280) (444 + 61 * C + 3) ((f 280 (444 + 61 * C + 3)) + ((((f 280 (444 + 61 * (C + 1) + 3)) - (f 280 (444 + 61 * C + 3))) * (f 280 56)) / (256 : Int32)))), l)) rfl rfl (fl_bo rfl) rfl ?_
  refine fl_Tq.cI (c := (3 : Int32)) rfl (by decide +kernel) (fl_bo rfl) ?_
  refine fl_Tq.stp (pc' := 47) (lv' := [some (.inr (.inr (.inl (76, 277)))), some (.inl c), some (.inl ((((f 280 (444 + 61 * (C + 1) + 3)) - (f 280 (444 + 61 * C + 3))) * (f 280 56)) / (256 : Int32)))]) (st' := [.inr (.inr (.inl (76, 277))), .inl (3 : Int32), .inl (c + (1 : Int32)), .inr (.inr (.inl (76, 277)))]) (m' := (fl_row f 280 (upd (f 280) (444 + 61 * C + 3) ((f 280 (444 + 61 * C + 3)) + ((((f 280 (444 + 61 * (C + 1) + 3)) - (f 280 (444 + 61 * C + 3))) * (f 280 56)) / (256 : Int32)))), l)) rfl rfl (fl_bo rfl) rfl ?_
  refine fl_Tq.stp (pc' := 48) (lv' := [some (.inr (.inr (.inl (76, 277)))), some (.inl c), some (.inl ((((f 280 (444 + 61 * (C + 1) + 3)) - (f 280 (444 + 61 * C + 3))) * (f 280 56)) / (256 : Int32)))]) (st' := [.inl c, .inr (.inr (.inl (76, 277))), .inl (3 : Int32), .inl (c + (1 : Int32)), .inr (.inr (.inl (76, 277)))]) (m' := (fl_row f 280 (upd (f 280) (444 + 61 * C + 3) ((f 280 (444 + 61 * C + 3)) + ((((f 280 (444 + 61 * (C + 1) + 3)) - (f 280 (444 + 61 * C + 3))) * (f 280 56)) / (256 : Int32)))), l)) rfl rfl (fl_bo rfl) rfl ?_
  refine fl_Tq.cI (c := (1 : Int32)) rfl (by decide +kernel) (fl_bo rfl) ?_
  refine fl_Tq.stp (pc' := 50) (lv' := [some (.inr (.inr (.inl (76, 277)))), some (.inl c), some (.inl ((((f 280 (444 + 61 * (C + 1) + 3)) - (f 280 (444 + 61 * C + 3))) * (f 280 56)) / (256 : Int32)))]) (st' := [.inl (c + (1 : Int32)), .inr (.inr (.inl (76, 277))), .inl (3 : Int32), .inl (c + (1 : Int32)), .inr (.inr (.inl (76, 277)))]) (m' := (fl_row f 280 (upd (f 280) (444 + 61 * C + 3) ((f 280 (444 + 61 * C + 3)) + ((((f 280 (444 + 61 * (C + 1) + 3)) - (f 280 (444 + 61 * C + 3))) * (f 280 56)) / (256 : Int32)))), l)) rfl rfl (fl_bo rfl) rfl ?_
  refine fl_Tq.cI (c := (3 : Int32)) rfl (by decide +kernel) (fl_bo rfl) ?_
  refine fl_Tq.cal rfl rfl (fl_bo rfl) rfl ?_
  refine t2_get (C := (C + 1)) (W := 3) (v := f 280 (444 + 61 * (C + 1) + 3)) (t2_ia hc (by decide +kernel) (by omega)) (by decide +kernel) hC1 (by decide) (by simp only [fl_row_self, upd_ne (by omega : 444 + 61 * (C + 1) + 3 ≠ 444 + 61 * C + 3)]) ?_
  show fl_Tq _ 216 54 [some (.inr (.inr (.inl (76, 277)))), some (.inl c), some (.inl ((((f 280 (444 + 61 * (C + 1) + 3)) - (f 280 (444 + 61 * C + 3))) * (f 280 56)) / (256 : Int32)))] [.inl (f 280 (444 + 61 * (C + 1) + 3)), .inl (3 : Int32), .inl (c + (1 : Int32)), .inr (.inr (.inl (76, 277)))] (fl_row f 280 (upd (f 280) (444 + 61 * C + 3) ((f 280 (444 + 61 * C + 3)) + ((((f 280 (444 + 61 * (C + 1) + 3)) - (f 280 (444 + 61 * C + 3))) * (f 280 56)) / (256 : Int32)))), l) _
  refine fl_Tq.stp (pc' := 55) (lv' := [some (.inr (.inr (.inl (76, 277)))), some (.inl c), some (.inl ((((f 280 (444 + 61 * (C + 1) + 3)) - (f 280 (444 + 61 * C + 3))) * (f 280 56)) / (256 : Int32)))]) (st' := [.inl ((((f 280 (444 + 61 * (C + 1) + 3)) - (f 280 (444 + 61 * C + 3))) * (f 280 56)) / (256 : Int32)), .inl (f 280 (444 + 61 * (C + 1) + 3)), .inl (3 : Int32), .inl (c + (1 : Int32)), .inr (.inr (.inl (76, 277)))]) (m' := (fl_row f 280 (upd (f 280) (444 + 61 * C + 3) ((f 280 (444 + 61 * C + 3)) + ((((f 280 (444 + 61 * (C + 1) + 3)) - (f 280 (444 + 61 * C + 3))) * (f 280 56)) / (256 : Int32)))), l)) rfl rfl (fl_bo rfl) rfl ?_
  refine fl_Tq.stp (pc' := 56) (lv' := [some (.inr (.inr (.inl (76, 277)))), some (.inl c), some (.inl ((((f 280 (444 + 61 * (C + 1) + 3)) - (f 280 (444 + 61 * C + 3))) * (f 280 56)) / (256 : Int32)))]) (st' := [.inl ((f 280 (444 + 61 * (C + 1) + 3)) - ((((f 280 (444 + 61 * (C + 1) + 3)) - (f 280 (444 + 61 * C + 3))) * (f 280 56)) / (256 : Int32))), .inl (3 : Int32), .inl (c + (1 : Int32)), .inr (.inr (.inl (76, 277)))]) (m' := (fl_row f 280 (upd (f 280) (444 + 61 * C + 3) ((f 280 (444 + 61 * C + 3)) + ((((f 280 (444 + 61 * (C + 1) + 3)) - (f 280 (444 + 61 * C + 3))) * (f 280 56)) / (256 : Int32)))), l)) rfl rfl (fl_bo rfl) rfl ?_
  refine fl_Tq.cal rfl rfl (fl_bo rfl) rfl ?_
  refine t2_let (C := (C + 1)) (W := 3) (m' := (fl_row f 280 (upd (upd (f 280) (444 + 61 * C + 3) ((f 280 (444 + 61 * C + 3)) + ((((f 280 (444 + 61 * (C + 1) + 3)) - (f 280 (444 + 61 * C + 3))) * (f 280 56)) / (256 : Int32)))) (444 + 61 * (C + 1) + 3) ((f 280 (444 + 61 * (C + 1) + 3)) - ((((f 280 (444 + 61 * (C + 1) + 3)) - (f 280 (444 + 61 * C + 3))) * (f 280 56)) / (256 : Int32)))), l)) (t2_ia hc (by decide +kernel) (by omega)) (by decide +kernel) hC1 (by decide) (t2_upr) ?_
  show fl_Tq _ 216 59 [some (.inr (.inr (.inl (76, 277)))), some (.inl c), some (.inl ((((f 280 (444 + 61 * (C + 1) + 3)) - (f 280 (444 + 61 * C + 3))) * (f 280 56)) / (256 : Int32)))] [] (fl_row f 280 (upd (upd (f 280) (444 + 61 * C + 3) ((f 280 (444 + 61 * C + 3)) + ((((f 280 (444 + 61 * (C + 1) + 3)) - (f 280 (444 + 61 * C + 3))) * (f 280 56)) / (256 : Int32)))) (444 + 61 * (C + 1) + 3) ((f 280 (444 + 61 * (C + 1) + 3)) - ((((f 280 (444 + 61 * (C + 1) + 3)) - (f 280 (444 + 61 * C + 3))) * (f 280 56)) / (256 : Int32)))), l) _
  exact fl_Tq.ret rfl rfl rfl k
noncomputable def r_isAtEnd_e2 (f : t2_F) (x : Int32) : Nat → Option Int32
  | 0 => none
  | k2 + 1 => match r_isAtEnd_e2 f x k2 with
    | some r => some r
    | none => if (f 280 (444 + 61 * k2 + 1)).toInt = (if x.toInt = 0 then (3600 : Int32) * (f 280 (444 + 61 * k2 + 0)) else (0 : Int32)).toInt then some (1 : Int32) else none
noncomputable def r_isAtEnd_v (f : t2_F) (x : Int32) : Int32 := match r_isAtEnd_e2 f x ((f 280 2).toInt.toNat) with | some r => r | none => (0 : Int32)
theorem r_isAtEnd_q {L : Nat} {xs : Nat → Int32} {f : t2_F} {l : t2_L} {Q : Option fl_V → fl_M → Prop} {x : Int32} (hn : 0 ≤ (f 280 2).toInt ∧ (f 280 2).toInt ≤ 16) (k : Q (some (.inl (r_isAtEnd_v f x))) (f, l)) : fl_Tq (pw_P L xs) 320 0 (fl_args (am_mxl (pw_P L xs) 320) [.inr (.inr (.inl (76, 277))), .inl x]) [] (f, l) Q := by
  refine fl_Tq.cI (c := (0 : Int32)) rfl (by decide +kernel) (fl_bo rfl) ?_
  refine fl_Tq.stp (pc' := 2) (lv' := [some (.inr (.inr (.inl (76, 277)))), some (.inl x), some (.inl (0 : Int32))]) (st' := []) (m' := (f, l)) rfl rfl (fl_bo rfl) rfl ?_
  have hm2 : ∀ (k : Nat) (r : Int32), r_isAtEnd_e2 f x k = some r → r_isAtEnd_e2 f x (k + 1) = some r := fun k r e => by
    unfold r_isAtEnd_e2
    rw [e]
  have hs2 : ∀ k2 : Nat, k2 < (f 280 2).toInt.toNat → r_isAtEnd_e2 f x k2 = none → (r_isAtEnd_e2 f x (k2 + 1) = none → fl_Tq (pw_P L xs) 320 2 [some (.inr (.inr (.inl (76, 277)))), some (.inl x), some (.inl (Int32.ofNat (k2 + 1)))] [] (f, l) Q) → fl_Tq (pw_P L xs) 320 2 [some (.inr (.inr (.inl (76, 277)))), some (.inl x), some (.inl (Int32.ofNat k2))] [] (f, l) Q := by
    intro k2 hk2 he hS
    refine fl_Tq.stp (pc' := 3) (lv' := [some (.inr (.inr (.inl (76, 277)))), some (.inl x), some (.inl (Int32.ofNat k2))]) (st' := [.inl (Int32.ofNat k2)]) (m' := (f, l)) rfl rfl (fl_bo rfl) rfl ?_
    refine fl_Tq.stp (pc' := 4) (lv' := [some (.inr (.inr (.inl (76, 277)))), some (.inl x), some (.inl (Int32.ofNat k2))]) (st' := [.inr (.inr (.inl (76, 277))), .inl (Int32.ofNat k2)]) (m' := (f, l)) rfl rfl (fl_bo rfl) rfl ?_
    refine fl_Tq.stp (pc' := 7) (lv' := [some (.inr (.inr (.inl (76, 277)))), some (.inl x), some (.inl (Int32.ofNat k2))]) (st' := [.inr (.inr (.inl (79, 280))), .inl (Int32.ofNat k2)]) (m' := (f, l)) rfl rfl (fl_bo rfl) rfl ?_
    refine fl_Tq.cI (c := (2 : Int32)) rfl (by decide +kernel) (fl_bo rfl) ?_
    refine fl_Tq.ldV (p := 280) (τ := 79) (n := 29780) (z := (0, 0, 0)) (k := 2) (v := f 280 2) rfl (fl_bo rfl) rfl (by decide +kernel) (by decide) rfl ?_
    refine fl_Tq.jf rfl (fl_bo rfl) (c2_ge_f (t2_lk hk2 (t2_nn hn.1))) rfl ?_
    refine fl_Tq.stp (pc' := 13) (lv' := [some (.inr (.inr (.inl (76, 277)))), some (.inl x), some (.inl (Int32.ofNat k2))]) (st' := [.inr (.inr (.inl (76, 277)))]) (m' := (f, l)) rfl rfl (fl_bo rfl) rfl ?_
    refine fl_Tq.stp (pc' := 14) (lv' := [some (.inr (.inr (.inl (76, 277)))), some (.inl x), some (.inl (Int32.ofNat k2))]) (st' := [.inl (Int32.ofNat k2), .inr (.inr (.inl (76, 277)))]) (m' := (f, l)) rfl rfl (fl_bo rfl) rfl ?_
    refine fl_Tq.cI (c := (1 : Int32)) rfl (by decide +kernel) (fl_bo rfl) ?_
    refine fl_Tq.cal rfl rfl (fl_bo rfl) rfl ?_
    refine t2_get (C := k2) (W := 1) (v := f 280 (444 + 61 * k2 + 1)) (at_ofN (by omega)) (by decide +kernel) (by omega) (by decide) rfl ?_
    show fl_Tq _ 320 18 [some (.inr (.inr (.inl (76, 277)))), some (.inl x), some (.inl (Int32.ofNat k2))] [.inl (f 280 (444 + 61 * k2 + 1))] (f, l) _
    refine fl_Tq.stp (pc' := 19) (lv' := [some (.inr (.inr (.inl (76, 277)))), some (.inl x), some (.inl (Int32.ofNat k2))]) (st' := [.inl x, .inl (f 280 (444 + 61 * k2 + 1))]) (m' := (f, l)) rfl rfl (fl_bo rfl) rfl ?_
    have hj75 : fl_Tq (pw_P L xs) 320 31 [some (.inr (.inr (.inl (76, 277)))), some (.inl x), some (.inl (Int32.ofNat k2))] [.inl (if x.toInt = 0 then (3600 : Int32) * (f 280 (444 + 61 * k2 + 0)) else (0 : Int32)), .inl (f 280 (444 + 61 * k2 + 1))] (f, l) Q → fl_Tq (pw_P L xs) 320 19 [some (.inr (.inr (.inl (76, 277)))), some (.inl x), some (.inl (Int32.ofNat k2))] [.inl x, .inl (f 280 (444 + 61 * k2 + 1))] (f, l) Q := by
      intro hJ
      by_cases h1 : x.toInt = 0
      · refine fl_Tq.zf rfl (fl_bo rfl) (c1_ne_f h1) rfl ?_
        refine fl_Tq.stp (pc' := 23) (lv' := [some (.inr (.inr (.inl (76, 277)))), some (.inl x), some (.inl (Int32.ofNat k2))]) (st' := [.inr (.inr (.inl (76, 277))), .inl (f 280 (444 + 61 * k2 + 1))]) (m' := (f, l)) rfl rfl (fl_bo rfl) rfl ?_
        refine fl_Tq.stp (pc' := 24) (lv' := [some (.inr (.inr (.inl (76, 277)))), some (.inl x), some (.inl (Int32.ofNat k2))]) (st' := [.inl (Int32.ofNat k2), .inr (.inr (.inl (76, 277))), .inl (f 280 (444 + 61 * k2 + 1))]) (m' := (f, l)) rfl rfl (fl_bo rfl) rfl ?_
        refine fl_Tq.cal rfl rfl (fl_bo rfl) rfl ?_
        refine fl_Tq.cS (c := (3600 : Int32)) rfl (by decide +kernel) (fl_bo rfl) ?_
        refine fl_Tq.stp (pc' := 4) (lv' := [some (.inr (.inr (.inl (76, 277)))), some (.inl (Int32.ofNat k2))]) (st' := [.inr (.inr (.inl (76, 277))), .inl (3600 : Int32)]) (m' := (f, l)) rfl rfl (fl_bo rfl) rfl ?_
        refine fl_Tq.stp (pc' := 5) (lv' := [some (.inr (.inr (.inl (76, 277)))), some (.inl (Int32.ofNat k2))]) (st' := [.inl (Int32.ofNat k2), .inr (.inr (.inl (76, 277))), .inl (3600 : Int32)]) (m' := (f, l)) rfl rfl (fl_bo rfl) rfl ?_
        refine fl_Tq.cI (c := (0 : Int32)) rfl (by decide +kernel) (fl_bo rfl) ?_
        refine fl_Tq.cal rfl rfl (fl_bo rfl) rfl ?_
        refine t2_get (C := k2) (W := 0) (v := f 280 (444 + 61 * k2 + 0)) (at_ofN (by omega)) (by decide +kernel) (by omega) (by decide) rfl ?_
        show fl_Tq _ 195 9 [some (.inr (.inr (.inl (76, 277)))), some (.inl (Int32.ofNat k2))] [.inl (f 280 (444 + 61 * k2 + 0)), .inl (3600 : Int32)] (f, l) _
        refine fl_Tq.stp (pc' := 10) (lv' := [some (.inr (.inr (.inl (76, 277)))), some (.inl (Int32.ofNat k2))]) (st' := [.inl ((3600 : Int32) * (f 280 (444 + 61 * k2 + 0)))]) (m' := (f, l)) rfl rfl (fl_bo rfl) rfl ?_
        refine fl_Tq.ret rfl rfl rfl ?_
        show fl_Tq _ 320 27 [some (.inr (.inr (.inl (76, 277)))), some (.inl x), some (.inl (Int32.ofNat k2))] [.inl ((3600 : Int32) * (f 280 (444 + 61 * k2 + 0))), .inl (f 280 (444 + 61 * k2 + 1))] (f, l) _
        refine fl_Tq.stp (pc' := 31) (lv' := [some (.inr (.inr (.inl (76, 277)))), some (.inl x), some (.inl (Int32.ofNat k2))]) (st' := [.inl ((3600 : Int32) * (f 280 (444 + 61 * k2 + 0))), .inl (f 280 (444 + 61 * k2 + 1))]) (m' := (f, l)) rfl rfl (fl_bo rfl) rfl ?_
        have e0 : (if x.toInt = 0 then (3600 : Int32) * (f 280 (444 + 61 * k2 + 0)) else (0 : Int32)) = (3600 : Int32) * (f 280 (444 + 61 * k2 + 0)) := by simp only [if_pos h1]
        rw [e0] at hJ
        exact hJ
      · refine fl_Tq.zt rfl (fl_bo rfl) (c1_ne_t h1) rfl ?_
        refine fl_Tq.cI (c := (0 : Int32)) rfl (by decide +kernel) (fl_bo rfl) ?_
        have e0 : (if x.toInt = 0 then (3600 : Int32) * (f 280 (444 + 61 * k2 + 0)) else (0 : Int32)) = (0 : Int32) := by simp only [if_neg h1]
        rw [e0] at hJ
        exact hJ
    refine hj75 ?_
    show fl_Tq _ 320 31 [some (.inr (.inr (.inl (76, 277)))), some (.inl x), some (.inl (Int32.ofNat k2))] [.inl (if x.toInt = 0 then (3600 : Int32) * (f 280 (444 + 61 * k2 + 0)) else (0 : Int32)), .inl (f 280 (444 + 61 * k2 + 1))] (f, l) _
    by_cases h2 : (f 280 (444 + 61 * k2 + 1)).toInt = (if x.toInt = 0 then (3600 : Int32) * (f 280 (444 + 61 * k2 + 0)) else (0 : Int32)).toInt
    · refine fl_Tq.jf rfl (fl_bo rfl) (c2_ne_f h2) rfl ?_
      refine fl_Tq.cI (c := (1 : Int32)) rfl (by decide +kernel) (fl_bo rfl) ?_
      have ee : r_isAtEnd_e2 f x (k2 + 1) = some (1 : Int32) := by
        unfold r_isAtEnd_e2
        rw [he]
        simp only [if_pos h2]
      have en : r_isAtEnd_e2 f x ((f 280 2).toInt.toNat) = some (1 : Int32) := t2_Em hm2 ee (by omega)
      refine fl_Tq.ret rfl rfl rfl ?_
      unfold r_isAtEnd_v at k
      simp only [en] at k
      exact k
    · refine fl_Tq.jt rfl (fl_bo rfl) (c2_ne_t h2) rfl ?_
      refine fl_Tq.stp (pc' := 39) (lv' := [some (.inr (.inr (.inl (76, 277)))), some (.inl x), some (.inl ((Int32.ofNat k2) + (1 : Int32)))]) (st' := []) (m' := (f, l)) rfl rfl (fl_bo rfl) rfl ?_
      refine fl_Tq.stp (pc' := 2) (lv' := [some (.inr (.inr (.inl (76, 277)))), some (.inl x), some (.inl ((Int32.ofNat k2) + (1 : Int32)))]) (st' := []) (m' := (f, l)) rfl rfl (fl_bo rfl) rfl ?_
      have ee : r_isAtEnd_e2 f x (k2 + 1) = none := by
        unfold r_isAtEnd_e2
        rw [he]
        simp only [if_neg h2]
      have hS := hS ee
      rw [← t2_k1] at hS
      exact hS
  refine t2_forE (E := r_isAtEnd_e2 f x) (S := fun k2 => fl_Tq (pw_P L xs) 320 2 [some (.inr (.inr (.inl (76, 277)))), some (.inl x), some (.inl (Int32.ofNat k2))] [] (f, l) Q) hs2 rfl (fun en2 => ?_)
  show fl_Tq (pw_P L xs) 320 2 [some (.inr (.inr (.inl (76, 277)))), some (.inl x), some (.inl (Int32.ofNat ((f 280 2).toInt.toNat)))] [] (f, l) _
  refine fl_Tq.stp (pc' := 3) (lv' := [some (.inr (.inr (.inl (76, 277)))), some (.inl x), some (.inl (Int32.ofNat ((f 280 2).toInt.toNat)))]) (st' := [.inl (Int32.ofNat ((f 280 2).toInt.toNat))]) (m' := (f, l)) rfl rfl (fl_bo rfl) rfl ?_
  refine fl_Tq.stp (pc' := 4) (lv' := [some (.inr (.inr (.inl (76, 277)))), some (.inl x), some (.inl (Int32.ofNat ((f 280 2).toInt.toNat)))]) (st' := [.inr (.inr (.inl (76, 277))), .inl (Int32.ofNat ((f 280 2).toInt.toNat))]) (m' := (f, l)) rfl rfl (fl_bo rfl) rfl ?_
  refine fl_Tq.stp (pc' := 7) (lv' := [some (.inr (.inr (.inl (76, 277)))), some (.inl x), some (.inl (Int32.ofNat ((f 280 2).toInt.toNat)))]) (st' := [.inr (.inr (.inl (79, 280))), .inl (Int32.ofNat ((f 280 2).toInt.toNat))]) (m' := (f, l)) rfl rfl (fl_bo rfl) rfl ?_
  refine fl_Tq.cI (c := (2 : Int32)) rfl (by decide +kernel) (fl_bo rfl) ?_
  refine fl_Tq.ldV (p := 280) (τ := 79) (n := 29780) (z := (0, 0, 0)) (k := 2) (v := f 280 2) rfl (fl_bo rfl) rfl (by decide +kernel) (by decide) rfl ?_
  refine fl_Tq.jt rfl (fl_bo rfl) (c2_ge_t (t2_ln (t2_nn hn.1))) rfl ?_
  refine fl_Tq.cI (c := (0 : Int32)) rfl (by decide +kernel) (fl_bo rfl) ?_
  refine fl_Tq.ret rfl rfl rfl ?_
  unfold r_isAtEnd_v at k
  simp only [en2] at k
  exact k
noncomputable def r_soBy_e2 (f : t2_F) (x : Int32) : Nat → Option Int32
  | 0 => none
  | k2 + 1 => match r_soBy_e2 f x k2 with
    | some r => some r
    | none => if (if x.toInt = 0 then (if (f 280 34).toInt < (r_voltsOf_v f (Int32.ofNat k2) k2).toInt then (1 : Int32) else (0 : Int32)) else (if x.toInt = (1 : Int32).toInt then (if (r_voltsOf_v f (Int32.ofNat k2) k2).toInt < (f 280 35).toInt then (1 : Int32) else (0 : Int32)) else (if x.toInt = (2 : Int32).toInt then (if (f 280 36).toInt < (f 280 (444 + 61 * k2 + 3)).toInt then (1 : Int32) else (0 : Int32)) else (if 0 < (f 280 5).toInt then (if (f 280 (444 + 61 * k2 + 3)).toInt < (f 280 37).toInt then (1 : Int32) else (0 : Int32)) else (0 : Int32))))).toInt = 0 then none else some (Int32.ofNat k2)
noncomputable def r_soBy_v (f : t2_F) (x : Int32) : Int32 := match r_soBy_e2 f x ((f 280 2).toInt.toNat) with | some r => r | none => (-1 : Int32)
theorem r_soBy_q {L : Nat} {xs : Nat → Int32} {f : t2_F} {l : t2_L} {Q : Option fl_V → fl_M → Prop} {x : Int32} (hn : 0 ≤ (f 280 2).toInt ∧ (f 280 2).toInt ≤ 16) (hr : t2_RS f) (hk : ∀ C : Nat, (C : Int) < (f 280 2).toInt → t2_ck f C) (k : Q (some (.inl (r_soBy_v f x))) (f, l)) : fl_Tq (pw_P L xs) 228 0 (fl_args (am_mxl (pw_P L xs) 228) [.inr (.inr (.inl (76, 277))), .inl x]) [] (f, l) Q := by
  refine fl_Tq.cI (c := (0 : Int32)) rfl (by decide +kernel) (fl_bo rfl) ?_
  refine fl_Tq.stp (pc' := 2) (lv' := [some (.inr (.inr (.inl (76, 277)))), some (.inl x), some (.inl (0 : Int32)), none]) (st' := []) (m' := (f, l)) rfl rfl (fl_bo rfl) rfl ?_
  have hm2 : ∀ (k : Nat) (r : Int32), r_soBy_e2 f x k = some r → r_soBy_e2 f x (k + 1) = some r := fun k r e => by
    unfold r_soBy_e2
    rw [e]
  have hs2 : ∀ k2 : Nat, k2 < (f 280 2).toInt.toNat → r_soBy_e2 f x k2 = none → (r_soBy_e2 f x (k2 + 1) = none → fl_Tq (pw_P L xs) 228 2 [some (.inr (.inr (.inl (76, 277)))), some (.inl x), some (.inl (Int32.ofNat (k2 + 1))), none] [] (f, l) Q) → fl_Tq (pw_P L xs) 228 2 [some (.inr (.inr (.inl (76, 277)))), some (.inl x), some (.inl (Int32.ofNat k2)), none] [] (f, l) Q := by
    intro k2 hk2 he hS
    refine fl_Tq.stp (pc' := 3) (lv' := [some (.inr (.inr (.inl (76, 277)))), some (.inl x), some (.inl (Int32.ofNat k2)), none]) (st' := [.inl (Int32.ofNat k2)]) (m' := (f, l)) rfl rfl (fl_bo rfl) rfl ?_
    refine fl_Tq.stp (pc' := 4) (lv' := [some (.inr (.inr (.inl (76, 277)))), some (.inl x), some (.inl (Int32.ofNat k2)), none]) (st' := [.inr (.inr (.inl (76, 277))), .inl (Int32.ofNat k2)]) (m' := (f, l)) rfl rfl (fl_bo rfl) rfl ?_
    refine fl_Tq.stp (pc' := 7) (lv' := [some (.inr (.inr (.inl (76, 277)))), some (.inl x), some (.inl (Int32.ofNat k2)), none]) (st' := [.inr (.inr (.inl (79, 280))), .inl (Int32.ofNat k2)]) (m' := (f, l)) rfl rfl (fl_bo rfl) rfl ?_
    refine fl_Tq.cI (c := (2 : Int32)) rfl (by decide +kernel) (fl_bo rfl) ?_
    refine fl_Tq.ldV (p := 280) (τ := 79) (n := 29780) (z := (0, 0, 0)) (k := 2) (v := f 280 2) rfl (fl_bo rfl) rfl (by decide +kernel) (by decide) rfl ?_
    refine fl_Tq.jf rfl (fl_bo rfl) (c2_ge_f (t2_lk hk2 (t2_nn hn.1))) rfl ?_
    refine fl_Tq.stp (pc' := 13) (lv' := [some (.inr (.inr (.inl (76, 277)))), some (.inl x), some (.inl (Int32.ofNat k2)), none]) (st' := [.inl x]) (m' := (f, l)) rfl rfl (fl_bo rfl) rfl ?_
    have hj76 : fl_Tq (pw_P L xs) 228 118 [some (.inr (.inr (.inl (76, 277)))), some (.inl x), some (.inl (Int32.ofNat k2)), none] [.inl (if x.toInt = 0 then (if (f 280 34).toInt < (r_voltsOf_v f (Int32.ofNat k2) k2).toInt then (1 : Int32) else (0 : Int32)) else (if x.toInt = (1 : Int32).toInt then (if (r_voltsOf_v f (Int32.ofNat k2) k2).toInt < (f 280 35).toInt then (1 : Int32) else (0 : Int32)) else (if x.toInt = (2 : Int32).toInt then (if (f 280 36).toInt < (f 280 (444 + 61 * k2 + 3)).toInt then (1 : Int32) else (0 : Int32)) else (if 0 < (f 280 5).toInt then (if (f 280 (444 + 61 * k2 + 3)).toInt < (f 280 37).toInt then (1 : Int32) else (0 : Int32)) else (0 : Int32)))))] (f, l) Q → fl_Tq (pw_P L xs) 228 13 [some (.inr (.inr (.inl (76, 277)))), some (.inl x), some (.inl (Int32.ofNat k2)), none] [.inl x] (f, l) Q := by
      intro hJ
      by_cases h1 : x.toInt = 0
      · refine fl_Tq.zf rfl (fl_bo rfl) (c1_ne_f h1) rfl ?_
        refine fl_Tq.stp (pc' := 17) (lv' := [some (.inr (.inr (.inl (76, 277)))), some (.inl x), some (.inl (Int32.ofNat k2)), none]) (st' := [.inr (.inr (.inl (76, 277)))]) (m' := (f, l)) rfl rfl (fl_bo rfl) rfl ?_
        refine fl_Tq.stp (pc' := 18) (lv' := [some (.inr (.inr (.inl (76, 277)))), some (.inl x), some (.inl (Int32.ofNat k2)), none]) (st' := [.inl (Int32.ofNat k2), .inr (.inr (.inl (76, 277)))]) (m' := (f, l)) rfl rfl (fl_bo rfl) rfl ?_
        refine fl_Tq.cal rfl rfl (fl_bo rfl) rfl ?_
        refine r_voltsOf_q (at_ofN (by omega)) (by omega) hr (hk k2 (by omega)) ?_
        show fl_Tq _ 228 21 [some (.inr (.inr (.inl (76, 277)))), some (.inl x), some (.inl (Int32.ofNat k2)), none] [.inl (r_voltsOf_v f (Int32.ofNat k2) k2)] (f, l) _
        refine fl_Tq.stp (pc' := 22) (lv' := [some (.inr (.inr (.inl (76, 277)))), some (.inl x), some (.inl (Int32.ofNat k2)), none]) (st' := [.inr (.inr (.inl (76, 277))), .inl (r_voltsOf_v f (Int32.ofNat k2) k2)]) (m' := (f, l)) rfl rfl (fl_bo rfl) rfl ?_
        refine fl_Tq.cI (c := (0 : Int32)) rfl (by decide +kernel) (fl_bo rfl) ?_
        refine fl_Tq.cal rfl rfl (fl_bo rfl) rfl ?_
        refine t2_its (W := 0) (v := f 280 34) (by decide +kernel) (by decide) rfl ?_
        show fl_Tq _ 228 26 [some (.inr (.inr (.inl (76, 277)))), some (.inl x), some (.inl (Int32.ofNat k2)), none] [.inl (f 280 34), .inl (r_voltsOf_v f (Int32.ofNat k2) k2)] (f, l) _
        by_cases h2 : (f 280 34).toInt < (r_voltsOf_v f (Int32.ofNat k2) k2).toInt
        · refine fl_Tq.jf rfl (fl_bo rfl) (c2_le_f h2) rfl ?_
          refine fl_Tq.cI (c := (1 : Int32)) rfl (by decide +kernel) (fl_bo rfl) ?_
          refine fl_Tq.stp (pc' := 118) (lv' := [some (.inr (.inr (.inl (76, 277)))), some (.inl x), some (.inl (Int32.ofNat k2)), none]) (st' := [.inl (1 : Int32)]) (m' := (f, l)) rfl rfl (fl_bo rfl) rfl ?_
          have e0 : (if x.toInt = 0 then (if (f 280 34).toInt < (r_voltsOf_v f (Int32.ofNat k2) k2).toInt then (1 : Int32) else (0 : Int32)) else (if x.toInt = (1 : Int32).toInt then (if (r_voltsOf_v f (Int32.ofNat k2) k2).toInt < (f 280 35).toInt then (1 : Int32) else (0 : Int32)) else (if x.toInt = (2 : Int32).toInt then (if (f 280 36).toInt < (f 280 (444 + 61 * k2 + 3)).toInt then (1 : Int32) else (0 : Int32)) else (if 0 < (f 280 5).toInt then (if (f 280 (444 + 61 * k2 + 3)).toInt < (f 280 37).toInt then (1 : Int32) else (0 : Int32)) else (0 : Int32))))) = (1 : Int32) := by simp only [if_pos h1, if_pos h2]
          rw [e0] at hJ
          exact hJ
        · refine fl_Tq.jt rfl (fl_bo rfl) (c2_le_t h2) rfl ?_
          refine fl_Tq.cI (c := (0 : Int32)) rfl (by decide +kernel) (fl_bo rfl) ?_
          refine fl_Tq.stp (pc' := 118) (lv' := [some (.inr (.inr (.inl (76, 277)))), some (.inl x), some (.inl (Int32.ofNat k2)), none]) (st' := [.inl (0 : Int32)]) (m' := (f, l)) rfl rfl (fl_bo rfl) rfl ?_
          have e0 : (if x.toInt = 0 then (if (f 280 34).toInt < (r_voltsOf_v f (Int32.ofNat k2) k2).toInt then (1 : Int32) else (0 : Int32)) else (if x.toInt = (1 : Int32).toInt then (if (r_voltsOf_v f (Int32.ofNat k2) k2).toInt < (f 280 35).toInt then (1 : Int32) else (0 : Int32)) else (if x.toInt = (2 : Int32).toInt then (if (f 280 36).toInt < (f 280 (444 + 61 * k2 + 3)).toInt then (1 : Int32) else (0 : Int32)) else (if 0 < (f 280 5).toInt then (if (f 280 (444 + 61 * k2 + 3)).toInt < (f 280 37).toInt then (1 : Int32) else (0 : Int32)) else (0 : Int32))))) = (0 : Int32) := by simp only [if_pos h1, if_neg h2]
          rw [e0] at hJ
          exact hJ
      · refine fl_Tq.zt rfl (fl_bo rfl) (c1_ne_t h1) rfl ?_
        refine fl_Tq.stp (pc' := 38) (lv' := [some (.inr (.inr (.inl (76, 277)))), some (.inl x), some (.inl (Int32.ofNat k2)), none]) (st' := [.inl x]) (m' := (f, l)) rfl rfl (fl_bo rfl) rfl ?_
        refine fl_Tq.cI (c := (1 : Int32)) rfl (by decide +kernel) (fl_bo rfl) ?_
        by_cases h3 : x.toInt = (1 : Int32).toInt
        · refine fl_Tq.jf rfl (fl_bo rfl) (c2_ne_f h3) rfl ?_
          refine fl_Tq.stp (pc' := 43) (lv' := [some (.inr (.inr (.inl (76, 277)))), some (.inl x), some (.inl (Int32.ofNat k2)), none]) (st' := [.inr (.inr (.inl (76, 277)))]) (m' := (f, l)) rfl rfl (fl_bo rfl) rfl ?_
          refine fl_Tq.stp (pc' := 44) (lv' := [some (.inr (.inr (.inl (76, 277)))), some (.inl x), some (.inl (Int32.ofNat k2)), none]) (st' := [.inl (Int32.ofNat k2), .inr (.inr (.inl (76, 277)))]) (m' := (f, l)) rfl rfl (fl_bo rfl) rfl ?_
          refine fl_Tq.cal rfl rfl (fl_bo rfl) rfl ?_
          refine r_voltsOf_q (at_ofN (by omega)) (by omega) hr (hk k2 (by omega)) ?_
          show fl_Tq _ 228 47 [some (.inr (.inr (.inl (76, 277)))), some (.inl x), some (.inl (Int32.ofNat k2)), none] [.inl (r_voltsOf_v f (Int32.ofNat k2) k2)] (f, l) _
          refine fl_Tq.stp (pc' := 48) (lv' := [some (.inr (.inr (.inl (76, 277)))), some (.inl x), some (.inl (Int32.ofNat k2)), none]) (st' := [.inr (.inr (.inl (76, 277))), .inl (r_voltsOf_v f (Int32.ofNat k2) k2)]) (m' := (f, l)) rfl rfl (fl_bo rfl) rfl ?_
          refine fl_Tq.cI (c := (1 : Int32)) rfl (by decide +kernel) (fl_bo rfl) ?_
          refine fl_Tq.cal rfl rfl (fl_bo rfl) rfl ?_
          refine t2_its (W := 1) (v := f 280 35) (by decide +kernel) (by decide) rfl ?_
          show fl_Tq _ 228 52 [some (.inr (.inr (.inl (76, 277)))), some (.inl x), some (.inl (Int32.ofNat k2)), none] [.inl (f 280 35), .inl (r_voltsOf_v f (Int32.ofNat k2) k2)] (f, l) _
          by_cases h4 : (r_voltsOf_v f (Int32.ofNat k2) k2).toInt < (f 280 35).toInt
          · refine fl_Tq.jf rfl (fl_bo rfl) (c2_ge_f h4) rfl ?_
            refine fl_Tq.cI (c := (1 : Int32)) rfl (by decide +kernel) (fl_bo rfl) ?_
            refine fl_Tq.stp (pc' := 118) (lv' := [some (.inr (.inr (.inl (76, 277)))), some (.inl x), some (.inl (Int32.ofNat k2)), none]) (st' := [.inl (1 : Int32)]) (m' := (f, l)) rfl rfl (fl_bo rfl) rfl ?_
            have e0 : (if x.toInt = 0 then (if (f 280 34).toInt < (r_voltsOf_v f (Int32.ofNat k2) k2).toInt then (1 : Int32) else (0 : Int32)) else (if x.toInt = (1 : Int32).toInt then (if (r_voltsOf_v f (Int32.ofNat k2) k2).toInt < (f 280 35).toInt then (1 : Int32) else (0 : Int32)) else (if x.toInt = (2 : Int32).toInt then (if (f 280 36).toInt < (f 280 (444 + 61 * k2 + 3)).toInt then (1 : Int32) else (0 : Int32)) else (if 0 < (f 280 5).toInt then (if (f 280 (444 + 61 * k2 + 3)).toInt < (f 280 37).toInt then (1 : Int32) else (0 : Int32)) else (0 : Int32))))) = (1 : Int32) := by simp only [if_neg h1, if_pos h3, if_pos h4]
            rw [e0] at hJ
            exact hJ
          · refine fl_Tq.jt rfl (fl_bo rfl) (c2_ge_t h4) rfl ?_
            refine fl_Tq.cI (c := (0 : Int32)) rfl (by decide +kernel) (fl_bo rfl) ?_
            refine fl_Tq.stp (pc' := 118) (lv' := [some (.inr (.inr (.inl (76, 277)))), some (.inl x), some (.inl (Int32.ofNat k2)), none]) (st' := [.inl (0 : Int32)]) (m' := (f, l)) rfl rfl (fl_bo rfl) rfl ?_
            have e0 : (if x.toInt = 0 then (if (f 280 34).toInt < (r_voltsOf_v f (Int32.ofNat k2) k2).toInt then (1 : Int32) else (0 : Int32)) else (if x.toInt = (1 : Int32).toInt then (if (r_voltsOf_v f (Int32.ofNat k2) k2).toInt < (f 280 35).toInt then (1 : Int32) else (0 : Int32)) else (if x.toInt = (2 : Int32).toInt then (if (f 280 36).toInt < (f 280 (444 + 61 * k2 + 3)).toInt then (1 : Int32) else (0 : Int32)) else (if 0 < (f 280 5).toInt then (if (f 280 (444 + 61 * k2 + 3)).toInt < (f 280 37).toInt then (1 : Int32) else (0 : Int32)) else (0 : Int32))))) = (0 : Int32) := by simp only [if_neg h1, if_pos h3, if_neg h4]
            rw [e0] at hJ
            exact hJ
        · refine fl_Tq.jt rfl (fl_bo rfl) (c2_ne_t h3) rfl ?_
          refine fl_Tq.stp (pc' := 64) (lv' := [some (.inr (.inr (.inl (76, 277)))), some (.inl x), some (.inl (Int32.ofNat k2)), none]) (st' := [.inl x]) (m' := (f, l)) rfl rfl (fl_bo rfl) rfl ?_
          refine fl_Tq.cI (c := (2 : Int32)) rfl (by decide +kernel) (fl_bo rfl) ?_
          by_cases h5 : x.toInt = (2 : Int32).toInt
          · refine fl_Tq.jf rfl (fl_bo rfl) (c2_ne_f h5) rfl ?_
            refine fl_Tq.stp (pc' := 69) (lv' := [some (.inr (.inr (.inl (76, 277)))), some (.inl x), some (.inl (Int32.ofNat k2)), none]) (st' := [.inr (.inr (.inl (76, 277)))]) (m' := (f, l)) rfl rfl (fl_bo rfl) rfl ?_
            refine fl_Tq.stp (pc' := 70) (lv' := [some (.inr (.inr (.inl (76, 277)))), some (.inl x), some (.inl (Int32.ofNat k2)), none]) (st' := [.inl (Int32.ofNat k2), .inr (.inr (.inl (76, 277)))]) (m' := (f, l)) rfl rfl (fl_bo rfl) rfl ?_
            refine fl_Tq.cI (c := (3 : Int32)) rfl (by decide +kernel) (fl_bo rfl) ?_
            refine fl_Tq.cal rfl rfl (fl_bo rfl) rfl ?_
            refine t2_get (C := k2) (W := 3) (v := f 280 (444 + 61 * k2 + 3)) (at_ofN (by omega)) (by decide +kernel) (by omega) (by decide) rfl ?_
            show fl_Tq _ 228 74 [some (.inr (.inr (.inl (76, 277)))), some (.inl x), some (.inl (Int32.ofNat k2)), none] [.inl (f 280 (444 + 61 * k2 + 3))] (f, l) _
            refine fl_Tq.stp (pc' := 75) (lv' := [some (.inr (.inr (.inl (76, 277)))), some (.inl x), some (.inl (Int32.ofNat k2)), none]) (st' := [.inr (.inr (.inl (76, 277))), .inl (f 280 (444 + 61 * k2 + 3))]) (m' := (f, l)) rfl rfl (fl_bo rfl) rfl ?_
            refine fl_Tq.cI (c := (2 : Int32)) rfl (by decide +kernel) (fl_bo rfl) ?_
            refine fl_Tq.cal rfl rfl (fl_bo rfl) rfl ?_
            refine t2_its (W := 2) (v := f 280 36) (by decide +kernel) (by decide) rfl ?_
            show fl_Tq _ 228 79 [some (.inr (.inr (.inl (76, 277)))), some (.inl x), some (.inl (Int32.ofNat k2)), none] [.inl (f 280 36), .inl (f 280 (444 + 61 * k2 + 3))] (f, l) _
            by_cases h6 : (f 280 36).toInt < (f 280 (444 + 61 * k2 + 3)).toInt
            · refine fl_Tq.jf rfl (fl_bo rfl) (c2_le_f h6) rfl ?_
              refine fl_Tq.cI (c := (1 : Int32)) rfl (by decide +kernel) (fl_bo rfl) ?_
              refine fl_Tq.stp (pc' := 118) (lv' := [some (.inr (.inr (.inl (76, 277)))), some (.inl x), some (.inl (Int32.ofNat k2)), none]) (st' := [.inl (1 : Int32)]) (m' := (f, l)) rfl rfl (fl_bo rfl) rfl ?_
              have e0 : (if x.toInt = 0 then (if (f 280 34).toInt < (r_voltsOf_v f (Int32.ofNat k2) k2).toInt then (1 : Int32) else (0 : Int32)) else (if x.toInt = (1 : Int32).toInt then (if (r_voltsOf_v f (Int32.ofNat k2) k2).toInt < (f 280 35).toInt then (1 : Int32) else (0 : Int32)) else (if x.toInt = (2 : Int32).toInt then (if (f 280 36).toInt < (f 280 (444 + 61 * k2 + 3)).toInt then (1 : Int32) else (0 : Int32)) else (if 0 < (f 280 5).toInt then (if (f 280 (444 + 61 * k2 + 3)).toInt < (f 280 37).toInt then (1 : Int32) else (0 : Int32)) else (0 : Int32))))) = (1 : Int32) := by simp only [if_neg h1, if_neg h3, if_pos h5, if_pos h6]
              rw [e0] at hJ
              exact hJ
            · refine fl_Tq.jt rfl (fl_bo rfl) (c2_le_t h6) rfl ?_
              refine fl_Tq.cI (c := (0 : Int32)) rfl (by decide +kernel) (fl_bo rfl) ?_
              refine fl_Tq.stp (pc' := 118) (lv' := [some (.inr (.inr (.inl (76, 277)))), some (.inl x), some (.inl (Int32.ofNat k2)), none]) (st' := [.inl (0 : Int32)]) (m' := (f, l)) rfl rfl (fl_bo rfl) rfl ?_
              have e0 : (if x.toInt = 0 then (if (f 280 34).toInt < (r_voltsOf_v f (Int32.ofNat k2) k2).toInt then (1 : Int32) else (0 : Int32)) else (if x.toInt = (1 : Int32).toInt then (if (r_voltsOf_v f (Int32.ofNat k2) k2).toInt < (f 280 35).toInt then (1 : Int32) else (0 : Int32)) else (if x.toInt = (2 : Int32).toInt then (if (f 280 36).toInt < (f 280 (444 + 61 * k2 + 3)).toInt then (1 : Int32) else (0 : Int32)) else (if 0 < (f 280 5).toInt then (if (f 280 (444 + 61 * k2 + 3)).toInt < (f 280 37).toInt then (1 : Int32) else (0 : Int32)) else (0 : Int32))))) = (0 : Int32) := by simp only [if_neg h1, if_neg h3, if_pos h5, if_neg h6]
              rw [e0] at hJ
              exact hJ
          · refine fl_Tq.jt rfl (fl_bo rfl) (c2_ne_t h5) rfl ?_
            refine fl_Tq.stp (pc' := 91) (lv' := [some (.inr (.inr (.inl (76, 277)))), some (.inl x), some (.inl (Int32.ofNat k2)), none]) (st' := [.inr (.inr (.inl (76, 277)))]) (m' := (f, l)) rfl rfl (fl_bo rfl) rfl ?_
            refine fl_Tq.stp (pc' := 94) (lv' := [some (.inr (.inr (.inl (76, 277)))), some (.inl x), some (.inl (Int32.ofNat k2)), none]) (st' := [.inr (.inr (.inl (79, 280)))]) (m' := (f, l)) rfl rfl (fl_bo rfl) rfl ?_
            refine fl_Tq.cI (c := (5 : Int32)) rfl (by decide +kernel) (fl_bo rfl) ?_
            refine fl_Tq.ldV (p := 280) (τ := 79) (n := 29780) (z := (0, 0, 0)) (k := 5) (v := f 280 5) rfl (fl_bo rfl) rfl (by decide +kernel) (by decide) rfl ?_
            by_cases h7 : 0 < (f 280 5).toInt
            · refine fl_Tq.zf rfl (fl_bo rfl) (c1_le_f h7) rfl ?_
              refine fl_Tq.stp (pc' := 100) (lv' := [some (.inr (.inr (.inl (76, 277)))), some (.inl x), some (.inl (Int32.ofNat k2)), none]) (st' := [.inr (.inr (.inl (76, 277)))]) (m' := (f, l)) rfl rfl (fl_bo rfl) rfl ?_
              refine fl_Tq.stp (pc' := 101) (lv' := [some (.inr (.inr (.inl (76, 277)))), some (.inl x), some (.inl (Int32.ofNat k2)), none]) (st' := [.inl (Int32.ofNat k2), .inr (.inr (.inl (76, 277)))]) (m' := (f, l)) rfl rfl (fl_bo rfl) rfl ?_
              refine fl_Tq.cI (c := (3 : Int32)) rfl (by decide +kernel) (fl_bo rfl) ?_
              refine fl_Tq.cal rfl rfl (fl_bo rfl) rfl ?_
              refine t2_get (C := k2) (W := 3) (v := f 280 (444 + 61 * k2 + 3)) (at_ofN (by omega)) (by decide +kernel) (by omega) (by decide) rfl ?_
              show fl_Tq _ 228 105 [some (.inr (.inr (.inl (76, 277)))), some (.inl x), some (.inl (Int32.ofNat k2)), none] [.inl (f 280 (444 + 61 * k2 + 3))] (f, l) _
              refine fl_Tq.stp (pc' := 106) (lv' := [some (.inr (.inr (.inl (76, 277)))), some (.inl x), some (.inl (Int32.ofNat k2)), none]) (st' := [.inr (.inr (.inl (76, 277))), .inl (f 280 (444 + 61 * k2 + 3))]) (m' := (f, l)) rfl rfl (fl_bo rfl) rfl ?_
              refine fl_Tq.cI (c := (3 : Int32)) rfl (by decide +kernel) (fl_bo rfl) ?_
              refine fl_Tq.cal rfl rfl (fl_bo rfl) rfl ?_
              refine t2_its (W := 3) (v := f 280 37) (by decide +kernel) (by decide) rfl ?_
              show fl_Tq _ 228 110 [some (.inr (.inr (.inl (76, 277)))), some (.inl x), some (.inl (Int32.ofNat k2)), none] [.inl (f 280 37), .inl (f 280 (444 + 61 * k2 + 3))] (f, l) _
              by_cases h8 : (f 280 (444 + 61 * k2 + 3)).toInt < (f 280 37).toInt
              · refine fl_Tq.jf rfl (fl_bo rfl) (c2_ge_f h8) rfl ?_
                refine fl_Tq.cI (c := (1 : Int32)) rfl (by decide +kernel) (fl_bo rfl) ?_
                refine fl_Tq.stp (pc' := 118) (lv' := [some (.inr (.inr (.inl (76, 277)))), some (.inl x), some (.inl (Int32.ofNat k2)), none]) (st' := [.inl (1 : Int32)]) (m' := (f, l)) rfl rfl (fl_bo rfl) rfl ?_
                have e0 : (if x.toInt = 0 then (if (f 280 34).toInt < (r_voltsOf_v f (Int32.ofNat k2) k2).toInt then (1 : Int32) else (0 : Int32)) else (if x.toInt = (1 : Int32).toInt then (if (r_voltsOf_v f (Int32.ofNat k2) k2).toInt < (f 280 35).toInt then (1 : Int32) else (0 : Int32)) else (if x.toInt = (2 : Int32).toInt then (if (f 280 36).toInt < (f 280 (444 + 61 * k2 + 3)).toInt then (1 : Int32) else (0 : Int32)) else (if 0 < (f 280 5).toInt then (if (f 280 (444 + 61 * k2 + 3)).toInt < (f 280 37).toInt then (1 : Int32) else (0 : Int32)) else (0 : Int32))))) = (1 : Int32) := by simp only [if_neg h1, if_neg h3, if_neg h5, if_pos h7, if_pos h8]
                rw [e0] at hJ
                exact hJ
              · refine fl_Tq.jt rfl (fl_bo rfl) (c2_ge_t h8) rfl ?_
                refine fl_Tq.cI (c := (0 : Int32)) rfl (by decide +kernel) (fl_bo rfl) ?_
                have e0 : (if x.toInt = 0 then (if (f 280 34).toInt < (r_voltsOf_v f (Int32.ofNat k2) k2).toInt then (1 : Int32) else (0 : Int32)) else (if x.toInt = (1 : Int32).toInt then (if (r_voltsOf_v f (Int32.ofNat k2) k2).toInt < (f 280 35).toInt then (1 : Int32) else (0 : Int32)) else (if x.toInt = (2 : Int32).toInt then (if (f 280 36).toInt < (f 280 (444 + 61 * k2 + 3)).toInt then (1 : Int32) else (0 : Int32)) else (if 0 < (f 280 5).toInt then (if (f 280 (444 + 61 * k2 + 3)).toInt < (f 280 37).toInt then (1 : Int32) else (0 : Int32)) else (0 : Int32))))) = (0 : Int32) := by simp only [if_neg h1, if_neg h3, if_neg h5, if_pos h7, if_neg h8]
                rw [e0] at hJ
                exact hJ
            · refine fl_Tq.zt rfl (fl_bo rfl) (c1_le_t h7) rfl ?_
              refine fl_Tq.cI (c := (0 : Int32)) rfl (by decide +kernel) (fl_bo rfl) ?_
              have e0 : (if x.toInt = 0 then (if (f 280 34).toInt < (r_voltsOf_v f (Int32.ofNat k2) k2).toInt then (1 : Int32) else (0 : Int32)) else (if x.toInt = (1 : Int32).toInt then (if (r_voltsOf_v f (Int32.ofNat k2) k2).toInt < (f 280 35).toInt then (1 : Int32) else (0 : Int32)) else (if x.toInt = (2 : Int32).toInt then (if (f 280 36).toInt < (f 280 (444 + 61 * k2 + 3)).toInt then (1 : Int32) else (0 : Int32)) else (if 0 < (f 280 5).toInt then (if (f 280 (444 + 61 * k2 + 3)).toInt < (f 280 37).toInt then (1 : Int32) else (0 : Int32)) else (0 : Int32))))) = (0 : Int32) := by simp only [if_neg h1, if_neg h3, if_neg h5, if_neg h7]
              rw [e0] at hJ
              exact hJ
    refine hj76 ?_
    show fl_Tq _ 228 118 [some (.inr (.inr (.inl (76, 277)))), some (.inl x), some (.inl (Int32.ofNat k2)), none] [.inl (if x.toInt = 0 then (if (f 280 34).toInt < (r_voltsOf_v f (Int32.ofNat k2) k2).toInt then (1 : Int32) else (0 : Int32)) else (if x.toInt = (1 : Int32).toInt then (if (r_voltsOf_v f (Int32.ofNat k2) k2).toInt < (f 280 35).toInt then (1 : Int32) else (0 : Int32)) else (if x.toInt = (2 : Int32).toInt then (if (f 280 36).toInt < (f 280 (444 + 61 * k2 + 3)).toInt then (1 : Int32) else (0 : Int32)) else (if 0 < (f 280 5).toInt then (if (f 280 (444 + 61 * k2 + 3)).toInt < (f 280 37).toInt then (1 : Int32) else (0 : Int32)) else (0 : Int32)))))] (f, l) _
    refine fl_Tq.stp (pc' := 119) (lv' := [some (.inr (.inr (.inl (76, 277)))), some (.inl x), some (.inl (Int32.ofNat k2)), some (.inl (if x.toInt = 0 then (if (f 280 34).toInt < (r_voltsOf_v f (Int32.ofNat k2) k2).toInt then (1 : Int32) else (0 : Int32)) else (if x.toInt = (1 : Int32).toInt then (if (r_voltsOf_v f (Int32.ofNat k2) k2).toInt < (f 280 35).toInt then (1 : Int32) else (0 : Int32)) else (if x.toInt = (2 : Int32).toInt then (if (f 280 36).toInt < (f 280 (444 + 61 * k2 + 3)).toInt then (1 : Int32) else (0 : Int32)) else (if 0 < (f 280 5).toInt then (if (f 280 (444 + 61 * k2 + 3)).toInt < (f 280 37).toInt then (1 : Int32) else (0 : Int32)) else (0 : Int32))))))]) (st' := []) (m' := (f, l)) rfl rfl (fl_bo rfl) rfl ?_
    refine fl_Tq.stp (pc' := 120) (lv' := [some (.inr (.inr (.inl (76, 277)))), some (.inl x), some (.inl (Int32.ofNat k2)), some (.inl (if x.toInt = 0 then (if (f 280 34).toInt < (r_voltsOf_v f (Int32.ofNat k2) k2).toInt then (1 : Int32) else (0 : Int32)) else (if x.toInt = (1 : Int32).toInt then (if (r_voltsOf_v f (Int32.ofNat k2) k2).toInt < (f 280 35).toInt then (1 : Int32) else (0 : Int32)) else (if x.toInt = (2 : Int32).toInt then (if (f 280 36).toInt < (f 280 (444 + 61 * k2 + 3)).toInt then (1 : Int32) else (0 : Int32)) else (if 0 < (f 280 5).toInt then (if (f 280 (444 + 61 * k2 + 3)).toInt < (f 280 37).toInt then (1 : Int32) else (0 : Int32)) else (0 : Int32))))))]) (st' := [.inl (if x.toInt = 0 then (if (f 280 34).toInt < (r_voltsOf_v f (Int32.ofNat k2) k2).toInt then (1 : Int32) else (0 : Int32)) else (if x.toInt = (1 : Int32).toInt then (if (r_voltsOf_v f (Int32.ofNat k2) k2).toInt < (f 280 35).toInt then (1 : Int32) else (0 : Int32)) else (if x.toInt = (2 : Int32).toInt then (if (f 280 36).toInt < (f 280 (444 + 61 * k2 + 3)).toInt then (1 : Int32) else (0 : Int32)) else (if 0 < (f 280 5).toInt then (if (f 280 (444 + 61 * k2 + 3)).toInt < (f 280 37).toInt then (1 : Int32) else (0 : Int32)) else (0 : Int32)))))]) (m' := (f, l)) rfl rfl (fl_bo rfl) rfl ?_
    by_cases h9 : (if x.toInt = 0 then (if (f 280 34).toInt < (r_voltsOf_v f (Int32.ofNat k2) k2).toInt then (1 : Int32) else (0 : Int32)) else (if x.toInt = (1 : Int32).toInt then (if (r_voltsOf_v f (Int32.ofNat k2) k2).toInt < (f 280 35).toInt then (1 : Int32) else (0 : Int32)) else (if x.toInt = (2 : Int32).toInt then (if (f 280 36).toInt < (f 280 (444 + 61 * k2 + 3)).toInt then (1 : Int32) else (0 : Int32)) else (if 0 < (f 280 5).toInt then (if (f 280 (444 + 61 * k2 + 3)).toInt < (f 280 37).toInt then (1 : Int32) else (0 : Int32)) else (0 : Int32))))).toInt = 0
    · refine fl_Tq.zt rfl (fl_bo rfl) (c1_eq_t h9) rfl ?_
      refine fl_Tq.stp (pc' := 128) (lv' := [some (.inr (.inr (.inl (76, 277)))), some (.inl x), some (.inl ((Int32.ofNat k2) + (1 : Int32))), some (.inl (if x.toInt = 0 then (if (f 280 34).toInt < (r_voltsOf_v f (Int32.ofNat k2) k2).toInt then (1 : Int32) else (0 : Int32)) else (if x.toInt = (1 : Int32).toInt then (if (r_voltsOf_v f (Int32.ofNat k2) k2).toInt < (f 280 35).toInt then (1 : Int32) else (0 : Int32)) else (if x.toInt = (2 : Int32).toInt then (if (f 280 36).toInt < (f 280 (444 + 61 * k2 + 3)).toInt then (1 : Int32) else (0 : Int32)) else (if 0 < (f 280 5).toInt then (if (f 280 (444 + 61 * k2 + 3)).toInt < (f 280 37).toInt then (1 : Int32) else (0 : Int32)) else (0 : Int32))))))]) (st' := []) (m' := (f, l)) rfl rfl (fl_bo rfl) rfl ?_
      refine fl_Tq.stp (pc' := 2) (lv' := [some (.inr (.inr (.inl (76, 277)))), some (.inl x), some (.inl ((Int32.ofNat k2) + (1 : Int32))), some (.inl (if x.toInt = 0 then (if (f 280 34).toInt < (r_voltsOf_v f (Int32.ofNat k2) k2).toInt then (1 : Int32) else (0 : Int32)) else (if x.toInt = (1 : Int32).toInt then (if (r_voltsOf_v f (Int32.ofNat k2) k2).toInt < (f 280 35).toInt then (1 : Int32) else (0 : Int32)) else (if x.toInt = (2 : Int32).toInt then (if (f 280 36).toInt < (f 280 (444 + 61 * k2 + 3)).toInt then (1 : Int32) else (0 : Int32)) else (if 0 < (f 280 5).toInt then (if (f 280 (444 + 61 * k2 + 3)).toInt < (f 280 37).toInt then (1 : Int32) else (0 : Int32)) else (0 : Int32))))))]) (st' := []) (m' := (f, l)) rfl rfl (fl_bo rfl) rfl ?_
      have ee : r_soBy_e2 f x (k2 + 1) = none := by
        unfold r_soBy_e2
        rw [he]
        simp only [if_pos h9]
      have hS := hS ee
      rw [← t2_k1] at hS
      exact fl_Tq.fg hS ⟨rfl, rfl, rfl, True.intro⟩
    · refine fl_Tq.zf rfl (fl_bo rfl) (c1_eq_f h9) rfl ?_
      refine fl_Tq.stp (pc' := 124) (lv' := [some (.inr (.inr (.inl (76, 277)))), some (.inl x), some (.inl (Int32.ofNat k2)), some (.inl (if x.toInt = 0 then (if (f 280 34).toInt < (r_voltsOf_v f (Int32.ofNat k2) k2).toInt then (1 : Int32) else (0 : Int32)) else (if x.toInt = (1 : Int32).toInt then (if (r_voltsOf_v f (Int32.ofNat k2) k2).toInt < (f 280 35).toInt then (1 : Int32) else (0 : Int32)) else (if x.toInt = (2 : Int32).toInt then (if (f 280 36).toInt < (f 280 (444 + 61 * k2 + 3)).toInt then (1 : Int32) else (0 : Int32)) else (if 0 < (f 280 5).toInt then (if (f 280 (444 + 61 * k2 + 3)).toInt < (f 280 37).toInt then (1 : Int32) else (0 : Int32)) else (0 : Int32))))))]) (st' := [.inl (Int32.ofNat k2)]) (m' := (f, l)) rfl rfl (fl_bo rfl) rfl ?_
      have ee : r_soBy_e2 f x (k2 + 1) = some (Int32.ofNat k2) := by
        unfold r_soBy_e2
        rw [he]
        simp only [if_neg h9]
      have en : r_soBy_e2 f x ((f 280 2).toInt.toNat) = some (Int32.ofNat k2) := t2_Em hm2 ee (by omega)
      refine fl_Tq.ret rfl rfl rfl ?_
      unfold r_soBy_v at k
      simp only [en] at k
      exact k
  refine t2_forE (E := r_soBy_e2 f x) (S := fun k2 => fl_Tq (pw_P L xs) 228 2 [some (.inr (.inr (.inl (76, 277)))), some (.inl x), some (.inl (Int32.ofNat k2)), none] [] (f, l) Q) hs2 rfl (fun en2 => ?_)
  show fl_Tq (pw_P L xs) 228 2 [some (.inr (.inr (.inl (76, 277)))), some (.inl x), some (.inl (Int32.ofNat ((f 280 2).toInt.toNat))), none] [] (f, l) _
  refine fl_Tq.stp (pc' := 3) (lv' := [some (.inr (.inr (.inl (76, 277)))), some (.inl x), some (.inl (Int32.ofNat ((f 280 2).toInt.toNat))), none]) (st' := [.inl (Int32.ofNat ((f 280 2).toInt.toNat))]) (m' := (f, l)) rfl rfl (fl_bo rfl) rfl ?_
  refine fl_Tq.stp (pc' := 4) (lv' := [some (.inr (.inr (.inl (76, 277)))), some (.inl x), some (.inl (Int32.ofNat ((f 280 2).toInt.toNat))), none]) (st' := [.inr (.inr (.inl (76, 277))), .inl (Int32.ofNat ((f 280 2).toInt.toNat))]) (m' := (f, l)) rfl rfl (fl_bo rfl) rfl ?_
  refine fl_Tq.stp (pc' := 7) (lv' := [some (.inr (.inr (.inl (76, 277)))), some (.inl x), some (.inl (Int32.ofNat ((f 280 2).toInt.toNat))), none]) (st' := [.inr (.inr (.inl (79, 280))), .inl (Int32.ofNat ((f 280 2).toInt.toNat))]) (m' := (f, l)) rfl rfl (fl_bo rfl) rfl ?_
  refine fl_Tq.cI (c := (2 : Int32)) rfl (by decide +kernel) (fl_bo rfl) ?_
  refine fl_Tq.ldV (p := 280) (τ := 79) (n := 29780) (z := (0, 0, 0)) (k := 2) (v := f 280 2) rfl (fl_bo rfl) rfl (by decide +kernel) (by decide) rfl ?_
  refine fl_Tq.jt rfl (fl_bo rfl) (c2_ge_t (t2_ln (t2_nn hn.1))) rfl ?_
  refine fl_Tq.cI (c := (-1 : Int32)) rfl (by decide +kernel) (fl_bo rfl) ?_
  refine fl_Tq.ret rfl rfl rfl ?_
  unfold r_soBy_v at k
  simp only [en2] at k
  exact k
