noncomputable def r_canRun_v (f : t2_F) (a b : Int32) : Int32 := if (r_isIn_v a (1 : Int32) b).toInt = 0 then (0 : Int32) else (if (9999 : Int32).toInt < ((f 280 7) + a).toInt then (0 : Int32) else (1 : Int32))
theorem r_canRun_q {L : Nat} {xs : Nat → Int32} {f : t2_F} {l : t2_L} {Q : Option fl_V → fl_M → Prop} {a b : Int32}  (k : Q (some (.inl (r_canRun_v f a b))) (f, l)) : fl_Tq (pw_P L xs) 249 0 (fl_args (am_mxl (pw_P L xs) 249) [.inr (.inr (.inl (76, 277))), .inl a, .inl b]) [] (f, l) Q := by
  refine fl_Tq.stp (pc' := 1) (lv' := [some (.inr (.inr (.inl (76, 277)))), some (.inl a), some (.inl b)]) (st' := [.inl a]) (m' := (f, l)) rfl rfl (fl_bo rfl) rfl ?_
  refine fl_Tq.cI (c := (1 : Int32)) rfl (by decide +kernel) (fl_bo rfl) ?_
  refine fl_Tq.stp (pc' := 3) (lv' := [some (.inr (.inr (.inl (76, 277)))), some (.inl a), some (.inl b)]) (st' := [.inl b, .inl (1 : Int32), .inl a]) (m' := (f, l)) rfl rfl (fl_bo rfl) rfl ?_
  refine fl_Tq.cal rfl rfl (fl_bo rfl) rfl ?_
  refine r_isIn_q  ?_
  show fl_Tq _ 249 6 [some (.inr (.inr (.inl (76, 277)))), some (.inl a), some (.inl b)] [.inl (r_isIn_v a (1 : Int32) b)] (f, l) _
  by_cases h1 : (r_isIn_v a (1 : Int32) b).toInt = 0
  · refine fl_Tq.zt rfl (fl_bo rfl) (c1_eq_t h1) rfl ?_
    refine fl_Tq.cI (c := (0 : Int32)) rfl (by decide +kernel) (fl_bo rfl) ?_
    refine fl_Tq.ret rfl rfl rfl ?_
    unfold r_canRun_v at k
    simp only [if_pos h1] at k
    exact k
  · refine fl_Tq.zf rfl (fl_bo rfl) (c1_eq_f h1) rfl ?_
    refine fl_Tq.stp (pc' := 10) (lv' := [some (.inr (.inr (.inl (76, 277)))), some (.inl a), some (.inl b)]) (st' := [.inr (.inr (.inl (76, 277)))]) (m' := (f, l)) rfl rfl (fl_bo rfl) rfl ?_
    refine fl_Tq.stp (pc' := 13) (lv' := [some (.inr (.inr (.inl (76, 277)))), some (.inl a), some (.inl b)]) (st' := [.inr (.inr (.inl (79, 280)))]) (m' := (f, l)) rfl rfl (fl_bo rfl) rfl ?_
    refine fl_Tq.cB (c := (7 : Int32)) rfl (by decide +kernel) (fl_bo rfl) ?_
    refine fl_Tq.ldV (p := 280) (τ := 79) (n := 29780) (z := (0, 0, 0)) (k := 7) (v := f 280 7) rfl (fl_bo rfl) rfl (by decide +kernel) (by decide) rfl ?_
    refine fl_Tq.stp (pc' := 17) (lv' := [some (.inr (.inr (.inl (76, 277)))), some (.inl a), some (.inl b)]) (st' := [.inl a, .inl (f 280 7)]) (m' := (f, l)) rfl rfl (fl_bo rfl) rfl ?_
    refine fl_Tq.stp (pc' := 18) (lv' := [some (.inr (.inr (.inl (76, 277)))), some (.inl a), some (.inl b)]) (st' := [.inl ((f 280 7) + a)]) (m' := (f, l)) rfl rfl (fl_bo rfl) rfl ?_
    refine fl_Tq.cS (c := (9999 : Int32)) rfl (by decide +kernel) (fl_bo rfl) ?_
    by_cases h2 : (9999 : Int32).toInt < ((f 280 7) + a).toInt
    · refine fl_Tq.jt rfl (fl_bo rfl) (c2_gt_t h2) rfl ?_
      refine fl_Tq.cI (c := (0 : Int32)) rfl (by decide +kernel) (fl_bo rfl) ?_
      refine fl_Tq.ret rfl rfl rfl ?_
      unfold r_canRun_v at k
      simp only [if_neg h1, if_pos h2] at k
      exact k
    · refine fl_Tq.jf rfl (fl_bo rfl) (c2_gt_f h2) rfl ?_
      refine fl_Tq.cI (c := (1 : Int32)) rfl (by decide +kernel) (fl_bo rfl) ?_
      refine fl_Tq.stp (pc' := 29) (lv' := [some (.inr (.inr (.inl (76, 277)))), some (.inl a), some (.inl b)]) (st' := [.inl (1 : Int32)]) (m' := (f, l)) rfl rfl (fl_bo rfl) rfl ?_
      refine fl_Tq.ret rfl rfl rfl ?_
      unfold r_canRun_v at k
      simp only [if_neg h1, if_neg h2] at k
      exact k
theorem z310_A {L : Nat} {xs : Nat → Int32} {f : t2_F} {l : t2_L} {Q : Option fl_V → fl_M → Prop} {a b : Int32}  (k : fl_Tq (pw_P L xs) 310 5 [some (.inr (.inr (.inl (76, 277)))), some (.inl a), some (.inl b), none, none] [.inl (300 : Int32), .inl a, .inr (.inr (.inl (76, 277)))] (f, l) Q) : fl_Tq (pw_P L xs) 310 0 [some (.inr (.inr (.inl (76, 277)))), some (.inl a), some (.inl b), none, none] [] (f, l) Q := by
  refine fl_Tq.stp (pc' := 1) (lv' := [some (.inr (.inr (.inl (76, 277)))), some (.inl a), some (.inl b), none, none]) (st' := [.inr (.inr (.inl (76, 277)))]) (m' := (f, l)) rfl rfl (fl_bo rfl) rfl ?_
  refine fl_Tq.stp (pc' := 2) (lv' := [some (.inr (.inr (.inl (76, 277)))), some (.inl a), some (.inl b), none, none]) (st' := [.inl a, .inr (.inr (.inl (76, 277)))]) (m' := (f, l)) rfl rfl (fl_bo rfl) rfl ?_
  refine fl_Tq.cS (c := (300 : Int32)) rfl (by decide +kernel) (fl_bo rfl) ?_
  exact k
theorem z310_B {L : Nat} {xs : Nat → Int32} {f : t2_F} {l : t2_L} {Q : Option fl_V → fl_M → Prop} {a b z : Int32}  (k : (z.toInt = 0) → Q (some (.inl (-1000000000 : Int32))) (f, l)) (k1 : (¬ (z.toInt = 0)) → fl_Tq (pw_P L xs) 310 16 [some (.inr (.inr (.inl (76, 277)))), some (.inl a), some (.inl b), none, none] [.inr (.inr (.inl (76, 277)))] (f, l) Q) : fl_Tq (pw_P L xs) 310 8 [some (.inr (.inr (.inl (76, 277)))), some (.inl a), some (.inl b), none, none] [.inl z] (f, l) Q := by
  by_cases h1 : z.toInt = 0
  · refine fl_Tq.zf rfl (fl_bo rfl) (c1_ne_f h1) rfl ?_
    refine fl_Tq.stp (pc' := 14) (lv' := [some (.inr (.inr (.inl (76, 277)))), some (.inl a), some (.inl b), none, none]) (st' := [.inl (-1000000000 : Int32)]) (m' := (f, l)) rfl rfl (fl_bo rfl) rfl ?_
    exact fl_Tq.ret rfl rfl rfl (k h1)
  · refine fl_Tq.zt rfl (fl_bo rfl) (c1_ne_t h1) rfl ?_
    refine fl_Tq.stp (pc' := 16) (lv' := [some (.inr (.inr (.inl (76, 277)))), some (.inl a), some (.inl b), none, none]) (st' := [.inr (.inr (.inl (76, 277)))]) (m' := (f, l)) rfl rfl (fl_bo rfl) rfl ?_
    exact k1 h1
theorem z310_C {L : Nat} {xs : Nat → Int32} {f : t2_F} {l : t2_L} {Q : Option fl_V → fl_M → Prop} {a b : Int32}  (k : fl_Tq (pw_P L xs) 310 21 [some (.inr (.inr (.inl (76, 277)))), some (.inl a), some (.inl b), none, none] [.inl a, .inr (.inr (.inl (76, 277)))] (f, l) Q) : fl_Tq (pw_P L xs) 310 19 [some (.inr (.inr (.inl (76, 277)))), some (.inl a), some (.inl b), none, none] [] (f, l) Q := by
  refine fl_Tq.stp (pc' := 20) (lv' := [some (.inr (.inr (.inl (76, 277)))), some (.inl a), some (.inl b), none, none]) (st' := [.inr (.inr (.inl (76, 277)))]) (m' := (f, l)) rfl rfl (fl_bo rfl) rfl ?_
  refine fl_Tq.stp (pc' := 21) (lv' := [some (.inr (.inr (.inl (76, 277)))), some (.inl a), some (.inl b), none, none]) (st' := [.inl a, .inr (.inr (.inl (76, 277)))]) (m' := (f, l)) rfl rfl (fl_bo rfl) rfl ?_
  exact k
theorem z310_D {L : Nat} {xs : Nat → Int32} {f : t2_F} {l : t2_L} {Q : Option fl_V → fl_M → Prop} {a b z : Int32}  (k : fl_Tq (pw_P L xs) 310 27 [some (.inr (.inr (.inl (76, 277)))), some (.inl a), some (.inl b), some (.inl z), none] [.inl b, .inr (.inr (.inl (76, 277)))] (f, l) Q) : fl_Tq (pw_P L xs) 310 24 [some (.inr (.inr (.inl (76, 277)))), some (.inl a), some (.inl b), none, none] [.inl z] (f, l) Q := by
  refine fl_Tq.stp (pc' := 25) (lv' := [some (.inr (.inr (.inl (76, 277)))), some (.inl a), some (.inl b), some (.inl z), none]) (st' := []) (m' := (f, l)) rfl rfl (fl_bo rfl) rfl ?_
  refine fl_Tq.stp (pc' := 26) (lv' := [some (.inr (.inr (.inl (76, 277)))), some (.inl a), some (.inl b), some (.inl z), none]) (st' := [.inr (.inr (.inl (76, 277)))]) (m' := (f, l)) rfl rfl (fl_bo rfl) rfl ?_
  refine fl_Tq.stp (pc' := 27) (lv' := [some (.inr (.inr (.inl (76, 277)))), some (.inl a), some (.inl b), some (.inl z), none]) (st' := [.inl b, .inr (.inr (.inl (76, 277)))]) (m' := (f, l)) rfl rfl (fl_bo rfl) rfl ?_
  exact k
theorem z310_E {L : Nat} {xs : Nat → Int32} {f : t2_F} {l : t2_L} {Q : Option fl_V → fl_M → Prop} {a b y z : Int32}  (k : fl_Tq (pw_P L xs) 310 33 [some (.inr (.inr (.inl (76, 277)))), some (.inl a), some (.inl b), some (.inl z), some (.inl y)] [.inr (.inr (.inl (76, 277)))] (f, l) Q) : fl_Tq (pw_P L xs) 310 30 [some (.inr (.inr (.inl (76, 277)))), some (.inl a), some (.inl b), some (.inl z), none] [.inl y] (f, l) Q := by
  refine fl_Tq.stp (pc' := 32) (lv' := [some (.inr (.inr (.inl (76, 277)))), some (.inl a), some (.inl b), some (.inl z), some (.inl y)]) (st' := []) (m' := (f, l)) rfl rfl (fl_bo rfl) rfl ?_
  refine fl_Tq.stp (pc' := 33) (lv' := [some (.inr (.inr (.inl (76, 277)))), some (.inl a), some (.inl b), some (.inl z), some (.inl y)]) (st' := [.inr (.inr (.inl (76, 277)))]) (m' := (f, l)) rfl rfl (fl_bo rfl) rfl ?_
  exact k
theorem z310_F {L : Nat} {xs : Nat → Int32} {f : t2_F} {l : t2_L} {Q : Option fl_V → fl_M → Prop} {a b y z : Int32}  (k : Q (some (.inl y)) (f, l)) : fl_Tq (pw_P L xs) 310 36 [some (.inr (.inr (.inl (76, 277)))), some (.inl a), some (.inl b), some (.inl z), some (.inl y)] [] (f, l) Q := by
  refine fl_Tq.stp (pc' := 38) (lv' := [some (.inr (.inr (.inl (76, 277)))), some (.inl a), some (.inl b), some (.inl z), some (.inl y)]) (st' := [.inl y]) (m' := (f, l)) rfl rfl (fl_bo rfl) rfl ?_
  exact fl_Tq.ret rfl rfl rfl k
theorem z311_A {L : Nat} {xs : Nat → Int32} {f : t2_F} {l : t2_L} {Q : Option fl_V → fl_M → Prop} {a b c : Int32}  (k : fl_Tq (pw_P L xs) 311 5 [some (.inr (.inr (.inl (76, 277)))), some (.inl a), some (.inl b), some (.inl c), none, none] [.inl (300 : Int32), .inl a, .inr (.inr (.inl (76, 277)))] (f, l) Q) : fl_Tq (pw_P L xs) 311 0 [some (.inr (.inr (.inl (76, 277)))), some (.inl a), some (.inl b), some (.inl c), none, none] [] (f, l) Q := by
  refine fl_Tq.stp (pc' := 1) (lv' := [some (.inr (.inr (.inl (76, 277)))), some (.inl a), some (.inl b), some (.inl c), none, none]) (st' := [.inr (.inr (.inl (76, 277)))]) (m' := (f, l)) rfl rfl (fl_bo rfl) rfl ?_
  refine fl_Tq.stp (pc' := 2) (lv' := [some (.inr (.inr (.inl (76, 277)))), some (.inl a), some (.inl b), some (.inl c), none, none]) (st' := [.inl a, .inr (.inr (.inl (76, 277)))]) (m' := (f, l)) rfl rfl (fl_bo rfl) rfl ?_
  refine fl_Tq.cS (c := (300 : Int32)) rfl (by decide +kernel) (fl_bo rfl) ?_
  exact k
theorem z311_B {L : Nat} {xs : Nat → Int32} {f : t2_F} {l : t2_L} {Q : Option fl_V → fl_M → Prop} {a b c z : Int32}  (k : (z.toInt = 0) → Q (some (.inl (-1000000000 : Int32))) (f, l)) (k1 : (¬ (z.toInt = 0)) → fl_Tq (pw_P L xs) 311 16 [some (.inr (.inr (.inl (76, 277)))), some (.inl a), some (.inl b), some (.inl c), none, none] [.inr (.inr (.inl (76, 277)))] (f, l) Q) : fl_Tq (pw_P L xs) 311 8 [some (.inr (.inr (.inl (76, 277)))), some (.inl a), some (.inl b), some (.inl c), none, none] [.inl z] (f, l) Q := by
  by_cases h1 : z.toInt = 0
  · refine fl_Tq.zf rfl (fl_bo rfl) (c1_ne_f h1) rfl ?_
    refine fl_Tq.stp (pc' := 14) (lv' := [some (.inr (.inr (.inl (76, 277)))), some (.inl a), some (.inl b), some (.inl c), none, none]) (st' := [.inl (-1000000000 : Int32)]) (m' := (f, l)) rfl rfl (fl_bo rfl) rfl ?_
    exact fl_Tq.ret rfl rfl rfl (k h1)
  · refine fl_Tq.zt rfl (fl_bo rfl) (c1_ne_t h1) rfl ?_
    refine fl_Tq.stp (pc' := 16) (lv' := [some (.inr (.inr (.inl (76, 277)))), some (.inl a), some (.inl b), some (.inl c), none, none]) (st' := [.inr (.inr (.inl (76, 277)))]) (m' := (f, l)) rfl rfl (fl_bo rfl) rfl ?_
    exact k1 h1
theorem z311_C {L : Nat} {xs : Nat → Int32} {f : t2_F} {l : t2_L} {Q : Option fl_V → fl_M → Prop} {a b c : Int32}  (k : fl_Tq (pw_P L xs) 311 21 [some (.inr (.inr (.inl (76, 277)))), some (.inl a), some (.inl b), some (.inl c), none, none] [.inl a, .inr (.inr (.inl (76, 277)))] (f, l) Q) : fl_Tq (pw_P L xs) 311 19 [some (.inr (.inr (.inl (76, 277)))), some (.inl a), some (.inl b), some (.inl c), none, none] [] (f, l) Q := by
  refine fl_Tq.stp (pc' := 20) (lv' := [some (.inr (.inr (.inl (76, 277)))), some (.inl a), some (.inl b), some (.inl c), none, none]) (st' := [.inr (.inr (.inl (76, 277)))]) (m' := (f, l)) rfl rfl (fl_bo rfl) rfl ?_
  refine fl_Tq.stp (pc' := 21) (lv' := [some (.inr (.inr (.inl (76, 277)))), some (.inl a), some (.inl b), some (.inl c), none, none]) (st' := [.inl a, .inr (.inr (.inl (76, 277)))]) (m' := (f, l)) rfl rfl (fl_bo rfl) rfl ?_
  exact k
theorem z311_D {L : Nat} {xs : Nat → Int32} {f : t2_F} {l : t2_L} {Q : Option fl_V → fl_M → Prop} {a b c z : Int32}  (k : fl_Tq (pw_P L xs) 311 29 [some (.inr (.inr (.inl (76, 277)))), some (.inl a), some (.inl b), some (.inl c), some (.inl z), none] [.inl c, .inl b, .inr (.inr (.inl (76, 277)))] (f, l) Q) : fl_Tq (pw_P L xs) 311 24 [some (.inr (.inr (.inl (76, 277)))), some (.inl a), some (.inl b), some (.inl c), none, none] [.inl z] (f, l) Q := by
  refine fl_Tq.stp (pc' := 26) (lv' := [some (.inr (.inr (.inl (76, 277)))), some (.inl a), some (.inl b), some (.inl c), some (.inl z), none]) (st' := []) (m' := (f, l)) rfl rfl (fl_bo rfl) rfl ?_
  refine fl_Tq.stp (pc' := 27) (lv' := [some (.inr (.inr (.inl (76, 277)))), some (.inl a), some (.inl b), some (.inl c), some (.inl z), none]) (st' := [.inr (.inr (.inl (76, 277)))]) (m' := (f, l)) rfl rfl (fl_bo rfl) rfl ?_
  refine fl_Tq.stp (pc' := 28) (lv' := [some (.inr (.inr (.inl (76, 277)))), some (.inl a), some (.inl b), some (.inl c), some (.inl z), none]) (st' := [.inl b, .inr (.inr (.inl (76, 277)))]) (m' := (f, l)) rfl rfl (fl_bo rfl) rfl ?_
  refine fl_Tq.stp (pc' := 29) (lv' := [some (.inr (.inr (.inl (76, 277)))), some (.inl a), some (.inl b), some (.inl c), some (.inl z), none]) (st' := [.inl c, .inl b, .inr (.inr (.inl (76, 277)))]) (m' := (f, l)) rfl rfl (fl_bo rfl) rfl ?_
  exact k
theorem z311_E {L : Nat} {xs : Nat → Int32} {f : t2_F} {l : t2_L} {Q : Option fl_V → fl_M → Prop} {a b c y z : Int32}  (k : fl_Tq (pw_P L xs) 311 35 [some (.inr (.inr (.inl (76, 277)))), some (.inl a), some (.inl b), some (.inl c), some (.inl z), some (.inl y)] [.inr (.inr (.inl (76, 277)))] (f, l) Q) : fl_Tq (pw_P L xs) 311 32 [some (.inr (.inr (.inl (76, 277)))), some (.inl a), some (.inl b), some (.inl c), some (.inl z), none] [.inl y] (f, l) Q := by
  refine fl_Tq.stp (pc' := 34) (lv' := [some (.inr (.inr (.inl (76, 277)))), some (.inl a), some (.inl b), some (.inl c), some (.inl z), some (.inl y)]) (st' := []) (m' := (f, l)) rfl rfl (fl_bo rfl) rfl ?_
  refine fl_Tq.stp (pc' := 35) (lv' := [some (.inr (.inr (.inl (76, 277)))), some (.inl a), some (.inl b), some (.inl c), some (.inl z), some (.inl y)]) (st' := [.inr (.inr (.inl (76, 277)))]) (m' := (f, l)) rfl rfl (fl_bo rfl) rfl ?_
  exact k
theorem z311_F {L : Nat} {xs : Nat → Int32} {f : t2_F} {l : t2_L} {Q : Option fl_V → fl_M → Prop} {a b c y z : Int32}  (k : Q (some (.inl y)) (f, l)) : fl_Tq (pw_P L xs) 311 38 [some (.inr (.inr (.inl (76, 277)))), some (.inl a), some (.inl b), some (.inl c), some (.inl z), some (.inl y)] [] (f, l) Q := by
  refine fl_Tq.stp (pc' := 40) (lv' := [some (.inr (.inr (.inl (76, 277)))), some (.inl a), some (.inl b), some (.inl c), some (.inl z), some (.inl y)]) (st' := [.inl y]) (m' := (f, l)) rfl rfl (fl_bo rfl) rfl ?_
  exact fl_Tq.ret rfl rfl rfl k
theorem z312_A {L : Nat} {xs : Nat → Int32} {f : t2_F} {l : t2_L} {Q : Option fl_V → fl_M → Prop} {a : Int32}  (k : fl_Tq (pw_P L xs) 312 1 [some (.inr (.inr (.inl (76, 277)))), some (.inl a), none, none] [.inr (.inr (.inl (76, 277)))] (f, l) Q) : fl_Tq (pw_P L xs) 312 0 [some (.inr (.inr (.inl (76, 277)))), some (.inl a), none, none] [] (f, l) Q := by
  refine fl_Tq.stp (pc' := 1) (lv' := [some (.inr (.inr (.inl (76, 277)))), some (.inl a), none, none]) (st' := [.inr (.inr (.inl (76, 277)))]) (m' := (f, l)) rfl rfl (fl_bo rfl) rfl ?_
  exact k
theorem z312_B {L : Nat} {xs : Nat → Int32} {f : t2_F} {l : t2_L} {Q : Option fl_V → fl_M → Prop} {a : Int32}  (k : fl_Tq (pw_P L xs) 312 5 [some (.inr (.inr (.inl (76, 277)))), some (.inl a), none, none] [.inr (.inr (.inl (76, 277)))] (f, l) Q) : fl_Tq (pw_P L xs) 312 4 [some (.inr (.inr (.inl (76, 277)))), some (.inl a), none, none] [] (f, l) Q := by
  refine fl_Tq.stp (pc' := 5) (lv' := [some (.inr (.inr (.inl (76, 277)))), some (.inl a), none, none]) (st' := [.inr (.inr (.inl (76, 277)))]) (m' := (f, l)) rfl rfl (fl_bo rfl) rfl ?_
  exact k
theorem z312_C {L : Nat} {xs : Nat → Int32} {f : t2_F} {l : t2_L} {Q : Option fl_V → fl_M → Prop} {a z : Int32}  (k : fl_Tq (pw_P L xs) 312 11 [some (.inr (.inr (.inl (76, 277)))), some (.inl a), some (.inl z), none] [.inl a, .inr (.inr (.inl (76, 277)))] (f, l) Q) : fl_Tq (pw_P L xs) 312 8 [some (.inr (.inr (.inl (76, 277)))), some (.inl a), none, none] [.inl z] (f, l) Q := by
  refine fl_Tq.stp (pc' := 9) (lv' := [some (.inr (.inr (.inl (76, 277)))), some (.inl a), some (.inl z), none]) (st' := []) (m' := (f, l)) rfl rfl (fl_bo rfl) rfl ?_
  refine fl_Tq.stp (pc' := 10) (lv' := [some (.inr (.inr (.inl (76, 277)))), some (.inl a), some (.inl z), none]) (st' := [.inr (.inr (.inl (76, 277)))]) (m' := (f, l)) rfl rfl (fl_bo rfl) rfl ?_
  refine fl_Tq.stp (pc' := 11) (lv' := [some (.inr (.inr (.inl (76, 277)))), some (.inl a), some (.inl z), none]) (st' := [.inl a, .inr (.inr (.inl (76, 277)))]) (m' := (f, l)) rfl rfl (fl_bo rfl) rfl ?_
  exact k
theorem z312_D {L : Nat} {xs : Nat → Int32} {f : t2_F} {l : t2_L} {Q : Option fl_V → fl_M → Prop} {a y z : Int32}  (k : fl_Tq (pw_P L xs) 312 16 [some (.inr (.inr (.inl (76, 277)))), some (.inl a), some (.inl z), some (.inl y)] [.inr (.inr (.inl (76, 277)))] (f, l) Q) : fl_Tq (pw_P L xs) 312 14 [some (.inr (.inr (.inl (76, 277)))), some (.inl a), some (.inl z), none] [.inl y] (f, l) Q := by
  refine fl_Tq.stp (pc' := 15) (lv' := [some (.inr (.inr (.inl (76, 277)))), some (.inl a), some (.inl z), some (.inl y)]) (st' := []) (m' := (f, l)) rfl rfl (fl_bo rfl) rfl ?_
  refine fl_Tq.stp (pc' := 16) (lv' := [some (.inr (.inr (.inl (76, 277)))), some (.inl a), some (.inl z), some (.inl y)]) (st' := [.inr (.inr (.inl (76, 277)))]) (m' := (f, l)) rfl rfl (fl_bo rfl) rfl ?_
  exact k
theorem z312_E {L : Nat} {xs : Nat → Int32} {f : t2_F} {l : t2_L} {Q : Option fl_V → fl_M → Prop} {a y z : Int32}  (k : Q (some (.inl y)) (f, l)) : fl_Tq (pw_P L xs) 312 19 [some (.inr (.inr (.inl (76, 277)))), some (.inl a), some (.inl z), some (.inl y)] [] (f, l) Q := by
  refine fl_Tq.stp (pc' := 20) (lv' := [some (.inr (.inr (.inl (76, 277)))), some (.inl a), some (.inl z), some (.inl y)]) (st' := [.inl y]) (m' := (f, l)) rfl rfl (fl_bo rfl) rfl ?_
  exact fl_Tq.ret rfl rfl rfl k
theorem z313_A {L : Nat} {xs : Nat → Int32} {f : t2_F} {l : t2_L} {Q : Option fl_V → fl_M → Prop}   (k : fl_Tq (pw_P L xs) 313 1 [some (.inr (.inr (.inl (76, 277)))), none, none, none] [.inr (.inr (.inl (76, 277)))] (f, l) Q) : fl_Tq (pw_P L xs) 313 0 [some (.inr (.inr (.inl (76, 277)))), none, none, none] [] (f, l) Q := by
  refine fl_Tq.stp (pc' := 1) (lv' := [some (.inr (.inr (.inl (76, 277)))), none, none, none]) (st' := [.inr (.inr (.inl (76, 277)))]) (m' := (f, l)) rfl rfl (fl_bo rfl) rfl ?_
  exact k
theorem z313_B {L : Nat} {xs : Nat → Int32} {f : t2_F} {l : t2_L} {Q : Option fl_V → fl_M → Prop}   (k : fl_Tq (pw_P L xs) 313 10 [some (.inr (.inr (.inl (76, 277)))), some (.inl (0 : Int32)), some (.inl (0 : Int32)), some (.inl (0 : Int32))] [] (f, l) Q) : fl_Tq (pw_P L xs) 313 4 [some (.inr (.inr (.inl (76, 277)))), none, none, none] [] (f, l) Q := by
  refine fl_Tq.cI (c := (0 : Int32)) rfl (by decide +kernel) (fl_bo rfl) ?_
  refine fl_Tq.stp (pc' := 6) (lv' := [some (.inr (.inr (.inl (76, 277)))), some (.inl (0 : Int32)), none, none]) (st' := []) (m' := (f, l)) rfl rfl (fl_bo rfl) rfl ?_
  refine fl_Tq.cI (c := (0 : Int32)) rfl (by decide +kernel) (fl_bo rfl) ?_
  refine fl_Tq.stp (pc' := 8) (lv' := [some (.inr (.inr (.inl (76, 277)))), some (.inl (0 : Int32)), some (.inl (0 : Int32)), none]) (st' := []) (m' := (f, l)) rfl rfl (fl_bo rfl) rfl ?_
  refine fl_Tq.cI (c := (0 : Int32)) rfl (by decide +kernel) (fl_bo rfl) ?_
  refine fl_Tq.stp (pc' := 10) (lv' := [some (.inr (.inr (.inl (76, 277)))), some (.inl (0 : Int32)), some (.inl (0 : Int32)), some (.inl (0 : Int32))]) (st' := []) (m' := (f, l)) rfl rfl (fl_bo rfl) rfl ?_
  exact k
theorem z313_C {L : Nat} {xs : Nat → Int32} {f : t2_F} {l : t2_L} {Q : Option fl_V → fl_M → Prop} {b c : Int32} {j : Nat}  (k : (c.toInt = 0) → ((Int32.ofNat j).toInt < (2000 : Int32).toInt) → ((f 280 7).toInt < (9999 : Int32).toInt) → fl_Tq (pw_P L xs) 313 36 [some (.inr (.inr (.inl (76, 277)))), some (.inl (Int32.ofNat j)), some (.inl b), some (.inl c)] [.inr (.inr (.inl (76, 277))), .inl b] (f, l) Q) (k1 : (c.toInt = 0) → ((Int32.ofNat j).toInt < (2000 : Int32).toInt) → (¬ ((f 280 7).toInt < (9999 : Int32).toInt)) → fl_Tq (pw_P L xs) 313 61 [some (.inr (.inr (.inl (76, 277)))), some (.inl (Int32.ofNat j)), some (.inl b), some (.inl c)] [.inr (.inr (.inl (76, 277)))] (f, l) Q) (k2 : (c.toInt = 0) → (¬ ((Int32.ofNat j).toInt < (2000 : Int32).toInt)) → fl_Tq (pw_P L xs) 313 61 [some (.inr (.inr (.inl (76, 277)))), some (.inl (Int32.ofNat j)), some (.inl b), some (.inl c)] [.inr (.inr (.inl (76, 277)))] (f, l) Q) (k3 : (¬ (c.toInt = 0)) → fl_Tq (pw_P L xs) 313 61 [some (.inr (.inr (.inl (76, 277)))), some (.inl (Int32.ofNat j)), some (.inl b), some (.inl c)] [.inr (.inr (.inl (76, 277)))] (f, l) Q) : fl_Tq (pw_P L xs) 313 10 [some (.inr (.inr (.inl (76, 277)))), some (.inl (Int32.ofNat j)), some (.inl b), some (.inl c)] [] (f, l) Q := by
  refine fl_Tq.stp (pc' := 11) (lv' := [some (.inr (.inr (.inl (76, 277)))), some (.inl (Int32.ofNat j)), some (.inl b), some (.inl c)]) (st' := [.inl c]) (m' := (f, l)) rfl rfl (fl_bo rfl) rfl ?_
  by_cases h1 : c.toInt = 0
  · refine fl_Tq.zf rfl (fl_bo rfl) (c1_ne_f h1) rfl ?_
    refine fl_Tq.stp (pc' := 15) (lv' := [some (.inr (.inr (.inl (76, 277)))), some (.inl (Int32.ofNat j)), some (.inl b), some (.inl c)]) (st' := [.inl (Int32.ofNat j)]) (m' := (f, l)) rfl rfl (fl_bo rfl) rfl ?_
    refine fl_Tq.cS (c := (2000 : Int32)) rfl (by decide +kernel) (fl_bo rfl) ?_
    by_cases h2 : (Int32.ofNat j).toInt < (2000 : Int32).toInt
    · refine fl_Tq.jf rfl (fl_bo rfl) (c2_ge_f h2) rfl ?_
      refine fl_Tq.stp (pc' := 22) (lv' := [some (.inr (.inr (.inl (76, 277)))), some (.inl (Int32.ofNat j)), some (.inl b), some (.inl c)]) (st' := [.inr (.inr (.inl (76, 277)))]) (m' := (f, l)) rfl rfl (fl_bo rfl) rfl ?_
      refine fl_Tq.stp (pc' := 25) (lv' := [some (.inr (.inr (.inl (76, 277)))), some (.inl (Int32.ofNat j)), some (.inl b), some (.inl c)]) (st' := [.inr (.inr (.inl (79, 280)))]) (m' := (f, l)) rfl rfl (fl_bo rfl) rfl ?_
      refine fl_Tq.cB (c := (7 : Int32)) rfl (by decide +kernel) (fl_bo rfl) ?_
      refine fl_Tq.ldV (p := 280) (τ := 79) (n := 29780) (z := (0, 0, 0)) (k := 7) (v := f 280 7) rfl (fl_bo rfl) rfl (by decide +kernel) (by decide) rfl ?_
      refine fl_Tq.cS (c := (9999 : Int32)) rfl (by decide +kernel) (fl_bo rfl) ?_
      by_cases h3 : (f 280 7).toInt < (9999 : Int32).toInt
      · refine fl_Tq.jf rfl (fl_bo rfl) (c2_ge_f h3) rfl ?_
        refine fl_Tq.stp (pc' := 35) (lv' := [some (.inr (.inr (.inl (76, 277)))), some (.inl (Int32.ofNat j)), some (.inl b), some (.inl c)]) (st' := [.inl b]) (m' := (f, l)) rfl rfl (fl_bo rfl) rfl ?_
        refine fl_Tq.stp (pc' := 36) (lv' := [some (.inr (.inr (.inl (76, 277)))), some (.inl (Int32.ofNat j)), some (.inl b), some (.inl c)]) (st' := [.inr (.inr (.inl (76, 277))), .inl b]) (m' := (f, l)) rfl rfl (fl_bo rfl) rfl ?_
        exact k h1 h2 h3
      · refine fl_Tq.jt rfl (fl_bo rfl) (c2_ge_t h3) rfl ?_
        refine fl_Tq.stp (pc' := 61) (lv' := [some (.inr (.inr (.inl (76, 277)))), some (.inl (Int32.ofNat j)), some (.inl b), some (.inl c)]) (st' := [.inr (.inr (.inl (76, 277)))]) (m' := (f, l)) rfl rfl (fl_bo rfl) rfl ?_
        exact k1 h1 h2 h3
    · refine fl_Tq.jt rfl (fl_bo rfl) (c2_ge_t h2) rfl ?_
      refine fl_Tq.stp (pc' := 61) (lv' := [some (.inr (.inr (.inl (76, 277)))), some (.inl (Int32.ofNat j)), some (.inl b), some (.inl c)]) (st' := [.inr (.inr (.inl (76, 277)))]) (m' := (f, l)) rfl rfl (fl_bo rfl) rfl ?_
      exact k2 h1 h2
  · refine fl_Tq.zt rfl (fl_bo rfl) (c1_ne_t h1) rfl ?_
    refine fl_Tq.stp (pc' := 61) (lv' := [some (.inr (.inr (.inl (76, 277)))), some (.inl (Int32.ofNat j)), some (.inl b), some (.inl c)]) (st' := [.inr (.inr (.inl (76, 277)))]) (m' := (f, l)) rfl rfl (fl_bo rfl) rfl ?_
    exact k3 h1
noncomputable def z313_D_j48_0 (f : t2_F) (b c z : Int32) (j : Nat) : Int32 := if (f 277 6).toInt = 0 then (1 : Int32) else (0 : Int32)
theorem z313_D {L : Nat} {xs : Nat → Int32} {f : t2_F} {l : t2_L} {Q : Option fl_V → fl_M → Prop} {b c z : Int32} {j : Nat}  (k : fl_Tq (pw_P L xs) 313 10 [some (.inr (.inr (.inl (76, 277)))), some (.inl ((Int32.ofNat j) + (1 : Int32))), some (.inl (b + z)), some (.inl (z313_D_j48_0 f b c z j))] [] (f, l) Q) : fl_Tq (pw_P L xs) 313 39 [some (.inr (.inr (.inl (76, 277)))), some (.inl (Int32.ofNat j)), some (.inl b), some (.inl c)] [.inl z, .inl b] (f, l) Q := by
  refine fl_Tq.stp (pc' := 40) (lv' := [some (.inr (.inr (.inl (76, 277)))), some (.inl (Int32.ofNat j)), some (.inl b), some (.inl c)]) (st' := [.inl (b + z)]) (m' := (f, l)) rfl rfl (fl_bo rfl) rfl ?_
  refine fl_Tq.stp (pc' := 41) (lv' := [some (.inr (.inr (.inl (76, 277)))), some (.inl (Int32.ofNat j)), some (.inl (b + z)), some (.inl c)]) (st' := []) (m' := (f, l)) rfl rfl (fl_bo rfl) rfl ?_
  refine fl_Tq.stp (pc' := 44) (lv' := [some (.inr (.inr (.inl (76, 277)))), some (.inl ((Int32.ofNat j) + (1 : Int32))), some (.inl (b + z)), some (.inl c)]) (st' := []) (m' := (f, l)) rfl rfl (fl_bo rfl) rfl ?_
  refine fl_Tq.stp (pc' := 45) (lv' := [some (.inr (.inr (.inl (76, 277)))), some (.inl ((Int32.ofNat j) + (1 : Int32))), some (.inl (b + z)), some (.inl c)]) (st' := [.inr (.inr (.inl (76, 277)))]) (m' := (f, l)) rfl rfl (fl_bo rfl) rfl ?_
  refine fl_Tq.gfV (k := 6) (v := f 277 6) rfl (fl_bo rfl) rfl rfl ?_
  have hj121 : fl_Tq (pw_P L xs) 313 56 [some (.inr (.inr (.inl (76, 277)))), some (.inl ((Int32.ofNat j) + (1 : Int32))), some (.inl (b + z)), some (.inl c)] [.inl (z313_D_j48_0 f b c z j)] (f, l) Q → fl_Tq (pw_P L xs) 313 48 [some (.inr (.inr (.inl (76, 277)))), some (.inl ((Int32.ofNat j) + (1 : Int32))), some (.inl (b + z)), some (.inl c)] [.inl (f 277 6)] (f, l) Q := by
    intro hJ
    by_cases h1 : (f 277 6).toInt = 0
    · refine fl_Tq.zf rfl (fl_bo rfl) (c1_ne_f h1) rfl ?_
      refine fl_Tq.cI (c := (1 : Int32)) rfl (by decide +kernel) (fl_bo rfl) ?_
      refine fl_Tq.stp (pc' := 56) (lv' := [some (.inr (.inr (.inl (76, 277)))), some (.inl ((Int32.ofNat j) + (1 : Int32))), some (.inl (b + z)), some (.inl c)]) (st' := [.inl (1 : Int32)]) (m' := (f, l)) rfl rfl (fl_bo rfl) rfl ?_
      have e0 : (z313_D_j48_0 f b c z j) = (1 : Int32) := by simp only [z313_D_j48_0, if_pos h1]
      rw [e0] at hJ
      exact hJ
    · refine fl_Tq.zt rfl (fl_bo rfl) (c1_ne_t h1) rfl ?_
      refine fl_Tq.cI (c := (0 : Int32)) rfl (by decide +kernel) (fl_bo rfl) ?_
      have e0 : (z313_D_j48_0 f b c z j) = (0 : Int32) := by simp only [z313_D_j48_0, if_neg h1]
      rw [e0] at hJ
      exact hJ
  refine hj121 ?_
  show fl_Tq _ 313 56 [some (.inr (.inr (.inl (76, 277)))), some (.inl ((Int32.ofNat j) + (1 : Int32))), some (.inl (b + z)), some (.inl c)] [.inl (z313_D_j48_0 f b c z j)] (f, l) _
  refine fl_Tq.stp (pc' := 57) (lv' := [some (.inr (.inr (.inl (76, 277)))), some (.inl ((Int32.ofNat j) + (1 : Int32))), some (.inl (b + z)), some (.inl (z313_D_j48_0 f b c z j))]) (st' := []) (m' := (f, l)) rfl rfl (fl_bo rfl) rfl ?_
  refine fl_Tq.stp (pc' := 10) (lv' := [some (.inr (.inr (.inl (76, 277)))), some (.inl ((Int32.ofNat j) + (1 : Int32))), some (.inl (b + z)), some (.inl (z313_D_j48_0 f b c z j))]) (st' := []) (m' := (f, l)) rfl rfl (fl_bo rfl) rfl ?_
  exact k
noncomputable def z313_E_j65_0 (b c : Int32) (j : Nat) : Int32 := if c.toInt = 0 then (-1 : Int32) else Int32.ofNat j
theorem z313_E {L : Nat} {xs : Nat → Int32} {f : t2_F} {l : t2_L} {Q : Option fl_V → fl_M → Prop} {b c : Int32} {j : Nat}  (k : Q (some (.inl (z313_E_j65_0 b c j))) (f, l)) : fl_Tq (pw_P L xs) 313 64 [some (.inr (.inr (.inl (76, 277)))), some (.inl (Int32.ofNat j)), some (.inl b), some (.inl c)] [] (f, l) Q := by
  refine fl_Tq.stp (pc' := 65) (lv' := [some (.inr (.inr (.inl (76, 277)))), some (.inl (Int32.ofNat j)), some (.inl b), some (.inl c)]) (st' := [.inl c]) (m' := (f, l)) rfl rfl (fl_bo rfl) rfl ?_
  have hj122 : fl_Tq (pw_P L xs) 313 73 [some (.inr (.inr (.inl (76, 277)))), some (.inl (Int32.ofNat j)), some (.inl b), some (.inl c)] [.inl (z313_E_j65_0 b c j)] (f, l) Q → fl_Tq (pw_P L xs) 313 65 [some (.inr (.inr (.inl (76, 277)))), some (.inl (Int32.ofNat j)), some (.inl b), some (.inl c)] [.inl c] (f, l) Q := by
    intro hJ
    by_cases h1 : c.toInt = 0
    · refine fl_Tq.zt rfl (fl_bo rfl) (c1_eq_t h1) rfl ?_
      refine fl_Tq.cI (c := (-1 : Int32)) rfl (by decide +kernel) (fl_bo rfl) ?_
      have e0 : (z313_E_j65_0 b c j) = (-1 : Int32) := by simp only [z313_E_j65_0, if_pos h1]
      rw [e0] at hJ
      exact hJ
    · refine fl_Tq.zf rfl (fl_bo rfl) (c1_eq_f h1) rfl ?_
      refine fl_Tq.stp (pc' := 69) (lv' := [some (.inr (.inr (.inl (76, 277)))), some (.inl (Int32.ofNat j)), some (.inl b), some (.inl c)]) (st' := [.inl (Int32.ofNat j)]) (m' := (f, l)) rfl rfl (fl_bo rfl) rfl ?_
      refine fl_Tq.stp (pc' := 73) (lv' := [some (.inr (.inr (.inl (76, 277)))), some (.inl (Int32.ofNat j)), some (.inl b), some (.inl c)]) (st' := [.inl (Int32.ofNat j)]) (m' := (f, l)) rfl rfl (fl_bo rfl) rfl ?_
      have e0 : (z313_E_j65_0 b c j) = Int32.ofNat j := by simp only [z313_E_j65_0, if_neg h1]
      rw [e0] at hJ
      exact hJ
  refine hj122 ?_
  show fl_Tq _ 313 73 [some (.inr (.inr (.inl (76, 277)))), some (.inl (Int32.ofNat j)), some (.inl b), some (.inl c)] [.inl (z313_E_j65_0 b c j)] (f, l) _
  exact fl_Tq.ret rfl rfl rfl k
theorem z314_A {L : Nat} {xs : Nat → Int32} {f : t2_F} {l : t2_L} {Q : Option fl_V → fl_M → Prop} {a : Int32}  (k : fl_Tq (pw_P L xs) 314 5 [some (.inr (.inr (.inl (76, 277)))), some (.inl a), none, none, none, none] [.inl (300 : Int32), .inl a, .inr (.inr (.inl (76, 277)))] (f, l) Q) : fl_Tq (pw_P L xs) 314 0 [some (.inr (.inr (.inl (76, 277)))), some (.inl a), none, none, none, none] [] (f, l) Q := by
  refine fl_Tq.stp (pc' := 1) (lv' := [some (.inr (.inr (.inl (76, 277)))), some (.inl a), none, none, none, none]) (st' := [.inr (.inr (.inl (76, 277)))]) (m' := (f, l)) rfl rfl (fl_bo rfl) rfl ?_
  refine fl_Tq.stp (pc' := 2) (lv' := [some (.inr (.inr (.inl (76, 277)))), some (.inl a), none, none, none, none]) (st' := [.inl a, .inr (.inr (.inl (76, 277)))]) (m' := (f, l)) rfl rfl (fl_bo rfl) rfl ?_
  refine fl_Tq.cS (c := (300 : Int32)) rfl (by decide +kernel) (fl_bo rfl) ?_
  exact k
theorem z314_B {L : Nat} {xs : Nat → Int32} {f : t2_F} {l : t2_L} {Q : Option fl_V → fl_M → Prop} {a z : Int32}  (k : (z.toInt = 0) → Q (some (.inl (-1 : Int32))) (f, l)) (k1 : (¬ (z.toInt = 0)) → fl_Tq (pw_P L xs) 314 14 [some (.inr (.inr (.inl (76, 277)))), some (.inl a), none, none, none, none] [.inr (.inr (.inl (76, 277)))] (f, l) Q) : fl_Tq (pw_P L xs) 314 8 [some (.inr (.inr (.inl (76, 277)))), some (.inl a), none, none, none, none] [.inl z] (f, l) Q := by
  by_cases h1 : z.toInt = 0
  · refine fl_Tq.zf rfl (fl_bo rfl) (c1_ne_f h1) rfl ?_
    refine fl_Tq.cI (c := (-1 : Int32)) rfl (by decide +kernel) (fl_bo rfl) ?_
    exact fl_Tq.ret rfl rfl rfl (k h1)
  · refine fl_Tq.zt rfl (fl_bo rfl) (c1_ne_t h1) rfl ?_
    refine fl_Tq.stp (pc' := 14) (lv' := [some (.inr (.inr (.inl (76, 277)))), some (.inl a), none, none, none, none]) (st' := [.inr (.inr (.inl (76, 277)))]) (m' := (f, l)) rfl rfl (fl_bo rfl) rfl ?_
    exact k1 h1
theorem z314_C {L : Nat} {xs : Nat → Int32} {f : t2_F} {l : t2_L} {Q : Option fl_V → fl_M → Prop} {a : Int32}  (k : fl_Tq (pw_P L xs) 314 30 [some (.inr (.inr (.inl (76, 277)))), some (.inl a), some (.inl (f 280 6)), some (.inl (0 : Int32)), some (.inl (0 : Int32)), none] [] (f, l) Q) : fl_Tq (pw_P L xs) 314 17 [some (.inr (.inr (.inl (76, 277)))), some (.inl a), none, none, none, none] [] (f, l) Q := by
  refine fl_Tq.stp (pc' := 18) (lv' := [some (.inr (.inr (.inl (76, 277)))), some (.inl a), none, none, none, none]) (st' := [.inr (.inr (.inl (76, 277)))]) (m' := (f, l)) rfl rfl (fl_bo rfl) rfl ?_
  refine fl_Tq.stp (pc' := 21) (lv' := [some (.inr (.inr (.inl (76, 277)))), some (.inl a), none, none, none, none]) (st' := [.inr (.inr (.inl (79, 280)))]) (m' := (f, l)) rfl rfl (fl_bo rfl) rfl ?_
  refine fl_Tq.cB (c := (6 : Int32)) rfl (by decide +kernel) (fl_bo rfl) ?_
  refine fl_Tq.ldV (p := 280) (τ := 79) (n := 29780) (z := (0, 0, 0)) (k := 6) (v := f 280 6) rfl (fl_bo rfl) rfl (by decide +kernel) (by decide) rfl ?_
  refine fl_Tq.stp (pc' := 25) (lv' := [some (.inr (.inr (.inl (76, 277)))), some (.inl a), some (.inl (f 280 6)), none, none, none]) (st' := []) (m' := (f, l)) rfl rfl (fl_bo rfl) rfl ?_
  refine fl_Tq.cI (c := (0 : Int32)) rfl (by decide +kernel) (fl_bo rfl) ?_
  refine fl_Tq.stp (pc' := 27) (lv' := [some (.inr (.inr (.inl (76, 277)))), some (.inl a), some (.inl (f 280 6)), some (.inl (0 : Int32)), none, none]) (st' := []) (m' := (f, l)) rfl rfl (fl_bo rfl) rfl ?_
  refine fl_Tq.cI (c := (0 : Int32)) rfl (by decide +kernel) (fl_bo rfl) ?_
  refine fl_Tq.stp (pc' := 30) (lv' := [some (.inr (.inr (.inl (76, 277)))), some (.inl a), some (.inl (f 280 6)), some (.inl (0 : Int32)), some (.inl (0 : Int32)), none]) (st' := []) (m' := (f, l)) rfl rfl (fl_bo rfl) rfl ?_
  exact k
theorem z314_D {L : Nat} {xs : Nat → Int32} {f : t2_F} {l : t2_L} {Q : Option fl_V → fl_M → Prop} {a b c : Int32} {j : Nat}  (k : ((Int32.ofNat j).toInt < a.toInt) → (c.toInt = 0) → fl_Tq (pw_P L xs) 314 41 [some (.inr (.inr (.inl (76, 277)))), some (.inl a), some (.inl b), some (.inl c), some (.inl (Int32.ofNat j)), none] [.inr (.inr (.inl (76, 277)))] (f, l) Q) (k1 : ((Int32.ofNat j).toInt < a.toInt) → (¬ (c.toInt = 0)) → fl_Tq (pw_P L xs) 314 65 [some (.inr (.inr (.inl (76, 277)))), some (.inl a), some (.inl b), some (.inl c), some (.inl ((f 280 6) &&& (b ^^^ (-1 : Int32)))), none] [.inr (.inr (.inl (76, 277)))] (f, l) Q) (k2 : (¬ ((Int32.ofNat j).toInt < a.toInt)) → fl_Tq (pw_P L xs) 314 65 [some (.inr (.inr (.inl (76, 277)))), some (.inl a), some (.inl b), some (.inl c), some (.inl ((f 280 6) &&& (b ^^^ (-1 : Int32)))), none] [.inr (.inr (.inl (76, 277)))] (f, l) Q) : fl_Tq (pw_P L xs) 314 30 [some (.inr (.inr (.inl (76, 277)))), some (.inl a), some (.inl b), some (.inl c), some (.inl (Int32.ofNat j)), none] [] (f, l) Q := by
  refine fl_Tq.stp (pc' := 32) (lv' := [some (.inr (.inr (.inl (76, 277)))), some (.inl a), some (.inl b), some (.inl c), some (.inl (Int32.ofNat j)), none]) (st' := [.inl (Int32.ofNat j)]) (m' := (f, l)) rfl rfl (fl_bo rfl) rfl ?_
  refine fl_Tq.stp (pc' := 33) (lv' := [some (.inr (.inr (.inl (76, 277)))), some (.inl a), some (.inl b), some (.inl c), some (.inl (Int32.ofNat j)), none]) (st' := [.inl a, .inl (Int32.ofNat j)]) (m' := (f, l)) rfl rfl (fl_bo rfl) rfl ?_
  by_cases h1 : (Int32.ofNat j).toInt < a.toInt
  · refine fl_Tq.jf rfl (fl_bo rfl) (c2_ge_f h1) rfl ?_
    refine fl_Tq.stp (pc' := 37) (lv' := [some (.inr (.inr (.inl (76, 277)))), some (.inl a), some (.inl b), some (.inl c), some (.inl (Int32.ofNat j)), none]) (st' := [.inl c]) (m' := (f, l)) rfl rfl (fl_bo rfl) rfl ?_
    by_cases h2 : c.toInt = 0
    · refine fl_Tq.zf rfl (fl_bo rfl) (c1_ne_f h2) rfl ?_
      refine fl_Tq.stp (pc' := 41) (lv' := [some (.inr (.inr (.inl (76, 277)))), some (.inl a), some (.inl b), some (.inl c), some (.inl (Int32.ofNat j)), none]) (st' := [.inr (.inr (.inl (76, 277)))]) (m' := (f, l)) rfl rfl (fl_bo rfl) rfl ?_
      exact k h1 h2
    · refine fl_Tq.zt rfl (fl_bo rfl) (c1_ne_t h2) rfl ?_
      refine fl_Tq.stp (pc' := 52) (lv' := [some (.inr (.inr (.inl (76, 277)))), some (.inl a), some (.inl b), some (.inl c), some (.inl (Int32.ofNat j)), none]) (st' := [.inr (.inr (.inl (76, 277)))]) (m' := (f, l)) rfl rfl (fl_bo rfl) rfl ?_
      refine fl_Tq.stp (pc' := 55) (lv' := [some (.inr (.inr (.inl (76, 277)))), some (.inl a), some (.inl b), some (.inl c), some (.inl (Int32.ofNat j)), none]) (st' := [.inr (.inr (.inl (79, 280)))]) (m' := (f, l)) rfl rfl (fl_bo rfl) rfl ?_
      refine fl_Tq.cB (c := (6 : Int32)) rfl (by decide +kernel) (fl_bo rfl) ?_
      refine fl_Tq.ldV (p := 280) (τ := 79) (n := 29780) (z := (0, 0, 0)) (k := 6) (v := f 280 6) rfl (fl_bo rfl) rfl (by decide +kernel) (by decide) rfl ?_
      refine fl_Tq.stp (pc' := 59) (lv' := [some (.inr (.inr (.inl (76, 277)))), some (.inl a), some (.inl b), some (.inl c), some (.inl (Int32.ofNat j)), none]) (st' := [.inl b, .inl (f 280 6)]) (m' := (f, l)) rfl rfl (fl_bo rfl) rfl ?_
      refine fl_Tq.cI (c := (-1 : Int32)) rfl (by decide +kernel) (fl_bo rfl) ?_
      refine fl_Tq.stp (pc' := 61) (lv' := [some (.inr (.inr (.inl (76, 277)))), some (.inl a), some (.inl b), some (.inl c), some (.inl (Int32.ofNat j)), none]) (st' := [.inl (b ^^^ (-1 : Int32)), .inl (f 280 6)]) (m' := (f, l)) rfl rfl (fl_bo rfl) rfl ?_
      refine fl_Tq.stp (pc' := 62) (lv' := [some (.inr (.inr (.inl (76, 277)))), some (.inl a), some (.inl b), some (.inl c), some (.inl (Int32.ofNat j)), none]) (st' := [.inl ((f 280 6) &&& (b ^^^ (-1 : Int32)))]) (m' := (f, l)) rfl rfl (fl_bo rfl) rfl ?_
      refine fl_Tq.stp (pc' := 64) (lv' := [some (.inr (.inr (.inl (76, 277)))), some (.inl a), some (.inl b), some (.inl c), some (.inl ((f 280 6) &&& (b ^^^ (-1 : Int32)))), none]) (st' := []) (m' := (f, l)) rfl rfl (fl_bo rfl) rfl ?_
      refine fl_Tq.stp (pc' := 65) (lv' := [some (.inr (.inr (.inl (76, 277)))), some (.inl a), some (.inl b), some (.inl c), some (.inl ((f 280 6) &&& (b ^^^ (-1 : Int32)))), none]) (st' := [.inr (.inr (.inl (76, 277)))]) (m' := (f, l)) rfl rfl (fl_bo rfl) rfl ?_
      exact k1 h1 h2
  · refine fl_Tq.jt rfl (fl_bo rfl) (c2_ge_t h1) rfl ?_
    refine fl_Tq.stp (pc' := 52) (lv' := [some (.inr (.inr (.inl (76, 277)))), some (.inl a), some (.inl b), some (.inl c), some (.inl (Int32.ofNat j)), none]) (st' := [.inr (.inr (.inl (76, 277)))]) (m' := (f, l)) rfl rfl (fl_bo rfl) rfl ?_
    refine fl_Tq.stp (pc' := 55) (lv' := [some (.inr (.inr (.inl (76, 277)))), some (.inl a), some (.inl b), some (.inl c), some (.inl (Int32.ofNat j)), none]) (st' := [.inr (.inr (.inl (79, 280)))]) (m' := (f, l)) rfl rfl (fl_bo rfl) rfl ?_
    refine fl_Tq.cB (c := (6 : Int32)) rfl (by decide +kernel) (fl_bo rfl) ?_
    refine fl_Tq.ldV (p := 280) (τ := 79) (n := 29780) (z := (0, 0, 0)) (k := 6) (v := f 280 6) rfl (fl_bo rfl) rfl (by decide +kernel) (by decide) rfl ?_
    refine fl_Tq.stp (pc' := 59) (lv' := [some (.inr (.inr (.inl (76, 277)))), some (.inl a), some (.inl b), some (.inl c), some (.inl (Int32.ofNat j)), none]) (st' := [.inl b, .inl (f 280 6)]) (m' := (f, l)) rfl rfl (fl_bo rfl) rfl ?_
    refine fl_Tq.cI (c := (-1 : Int32)) rfl (by decide +kernel) (fl_bo rfl) ?_
    refine fl_Tq.stp (pc' := 61) (lv' := [some (.inr (.inr (.inl (76, 277)))), some (.inl a), some (.inl b), some (.inl c), some (.inl (Int32.ofNat j)), none]) (st' := [.inl (b ^^^ (-1 : Int32)), .inl (f 280 6)]) (m' := (f, l)) rfl rfl (fl_bo rfl) rfl ?_
    refine fl_Tq.stp (pc' := 62) (lv' := [some (.inr (.inr (.inl (76, 277)))), some (.inl a), some (.inl b), some (.inl c), some (.inl (Int32.ofNat j)), none]) (st' := [.inl ((f 280 6) &&& (b ^^^ (-1 : Int32)))]) (m' := (f, l)) rfl rfl (fl_bo rfl) rfl ?_
    refine fl_Tq.stp (pc' := 64) (lv' := [some (.inr (.inr (.inl (76, 277)))), some (.inl a), some (.inl b), some (.inl c), some (.inl ((f 280 6) &&& (b ^^^ (-1 : Int32)))), none]) (st' := []) (m' := (f, l)) rfl rfl (fl_bo rfl) rfl ?_
    refine fl_Tq.stp (pc' := 65) (lv' := [some (.inr (.inr (.inl (76, 277)))), some (.inl a), some (.inl b), some (.inl c), some (.inl ((f 280 6) &&& (b ^^^ (-1 : Int32)))), none]) (st' := [.inr (.inr (.inl (76, 277)))]) (m' := (f, l)) rfl rfl (fl_bo rfl) rfl ?_
    exact k2 h1
theorem z314_E {L : Nat} {xs : Nat → Int32} {f : t2_F} {l : t2_L} {Q : Option fl_V → fl_M → Prop} {a b c z : Int32} {j : Nat}  (k : fl_Tq (pw_P L xs) 314 30 [some (.inr (.inr (.inl (76, 277)))), some (.inl a), some (.inl b), some (.inl z), some (.inl ((Int32.ofNat j) + (1 : Int32))), none] [] (f, l) Q) : fl_Tq (pw_P L xs) 314 44 [some (.inr (.inr (.inl (76, 277)))), some (.inl a), some (.inl b), some (.inl c), some (.inl (Int32.ofNat j)), none] [.inl z] (f, l) Q := by
  refine fl_Tq.stp (pc' := 45) (lv' := [some (.inr (.inr (.inl (76, 277)))), some (.inl a), some (.inl b), some (.inl z), some (.inl (Int32.ofNat j)), none]) (st' := []) (m' := (f, l)) rfl rfl (fl_bo rfl) rfl ?_
  refine fl_Tq.stp (pc' := 48) (lv' := [some (.inr (.inr (.inl (76, 277)))), some (.inl a), some (.inl b), some (.inl z), some (.inl ((Int32.ofNat j) + (1 : Int32))), none]) (st' := []) (m' := (f, l)) rfl rfl (fl_bo rfl) rfl ?_
  refine fl_Tq.stp (pc' := 30) (lv' := [some (.inr (.inr (.inl (76, 277)))), some (.inl a), some (.inl b), some (.inl z), some (.inl ((Int32.ofNat j) + (1 : Int32))), none]) (st' := []) (m' := (f, l)) rfl rfl (fl_bo rfl) rfl ?_
  exact k
theorem z314_F {L : Nat} {xs : Nat → Int32} {f : t2_F} {l : t2_L} {Q : Option fl_V → fl_M → Prop} {a b c d : Int32}  (k : fl_Tq (pw_P L xs) 314 71 [some (.inr (.inr (.inl (76, 277)))), some (.inl a), some (.inl b), some (.inl c), some (.inl d), some (.inl (0 : Int32))] [] (f, l) Q) : fl_Tq (pw_P L xs) 314 68 [some (.inr (.inr (.inl (76, 277)))), some (.inl a), some (.inl b), some (.inl c), some (.inl d), none] [] (f, l) Q := by
  refine fl_Tq.cI (c := (0 : Int32)) rfl (by decide +kernel) (fl_bo rfl) ?_
  refine fl_Tq.stp (pc' := 71) (lv' := [some (.inr (.inr (.inl (76, 277)))), some (.inl a), some (.inl b), some (.inl c), some (.inl d), some (.inl (0 : Int32))]) (st' := []) (m' := (f, l)) rfl rfl (fl_bo rfl) rfl ?_
  exact k
theorem z314_G {L : Nat} {xs : Nat → Int32} {f : t2_F} {l : t2_L} {Q : Option fl_V → fl_M → Prop} {a b c d : Int32} {j : Nat}  (k : ((Int32.ofNat j).toInt < (11 : Int32).toInt) → ((r_has_v d (Int32.ofNat j)).toInt = 0) → fl_Tq (pw_P L xs) 314 71 [some (.inr (.inr (.inl (76, 277)))), some (.inl a), some (.inl b), some (.inl c), some (.inl d), some (.inl ((Int32.ofNat j) + (1 : Int32)))] [] (f, l) Q) (k1 : ((Int32.ofNat j).toInt < (11 : Int32).toInt) → (¬ ((r_has_v d (Int32.ofNat j)).toInt = 0)) → Q (some (.inl (Int32.ofNat j))) (f, l)) (k2 : (¬ ((Int32.ofNat j).toInt < (11 : Int32).toInt)) → Q (some (.inl (-1 : Int32))) (f, l)) : fl_Tq (pw_P L xs) 314 71 [some (.inr (.inr (.inl (76, 277)))), some (.inl a), some (.inl b), some (.inl c), some (.inl d), some (.inl (Int32.ofNat j))] [] (f, l) Q := by
  refine fl_Tq.stp (pc' := 73) (lv' := [some (.inr (.inr (.inl (76, 277)))), some (.inl a), some (.inl b), some (.inl c), some (.inl d), some (.inl (Int32.ofNat j))]) (st' := [.inl (Int32.ofNat j)]) (m' := (f, l)) rfl rfl (fl_bo rfl) rfl ?_
  refine fl_Tq.cB (c := (11 : Int32)) rfl (by decide +kernel) (fl_bo rfl) ?_
  by_cases h1 : (Int32.ofNat j).toInt < (11 : Int32).toInt
  · refine fl_Tq.jf rfl (fl_bo rfl) (c2_ge_f h1) rfl ?_
    refine fl_Tq.stp (pc' := 80) (lv' := [some (.inr (.inr (.inl (76, 277)))), some (.inl a), some (.inl b), some (.inl c), some (.inl d), some (.inl (Int32.ofNat j))]) (st' := [.inl d]) (m' := (f, l)) rfl rfl (fl_bo rfl) rfl ?_
    refine fl_Tq.stp (pc' := 82) (lv' := [some (.inr (.inr (.inl (76, 277)))), some (.inl a), some (.inl b), some (.inl c), some (.inl d), some (.inl (Int32.ofNat j))]) (st' := [.inl (Int32.ofNat j), .inl d]) (m' := (f, l)) rfl rfl (fl_bo rfl) rfl ?_
    refine fl_Tq.cal rfl rfl (fl_bo rfl) rfl ?_
    refine r_has_q  ?_
    show fl_Tq _ 314 85 [some (.inr (.inr (.inl (76, 277)))), some (.inl a), some (.inl b), some (.inl c), some (.inl d), some (.inl (Int32.ofNat j))] [.inl (r_has_v d (Int32.ofNat j))] (f, l) _
    by_cases h2 : (r_has_v d (Int32.ofNat j)).toInt = 0
    · refine fl_Tq.zf rfl (fl_bo rfl) (c1_ne_f h2) rfl ?_
      refine fl_Tq.stp (pc' := 91) (lv' := [some (.inr (.inr (.inl (76, 277)))), some (.inl a), some (.inl b), some (.inl c), some (.inl d), some (.inl ((Int32.ofNat j) + (1 : Int32)))]) (st' := []) (m' := (f, l)) rfl rfl (fl_bo rfl) rfl ?_
      refine fl_Tq.stp (pc' := 71) (lv' := [some (.inr (.inr (.inl (76, 277)))), some (.inl a), some (.inl b), some (.inl c), some (.inl d), some (.inl ((Int32.ofNat j) + (1 : Int32)))]) (st' := []) (m' := (f, l)) rfl rfl (fl_bo rfl) rfl ?_
      exact k h1 h2
    · refine fl_Tq.zt rfl (fl_bo rfl) (c1_ne_t h2) rfl ?_
      refine fl_Tq.stp (pc' := 96) (lv' := [some (.inr (.inr (.inl (76, 277)))), some (.inl a), some (.inl b), some (.inl c), some (.inl d), some (.inl (Int32.ofNat j))]) (st' := [.inl (Int32.ofNat j)]) (m' := (f, l)) rfl rfl (fl_bo rfl) rfl ?_
      refine fl_Tq.cB (c := (11 : Int32)) rfl (by decide +kernel) (fl_bo rfl) ?_
      refine fl_Tq.jf rfl (fl_bo rfl) (c2_ge_f h1) rfl ?_
      refine fl_Tq.stp (pc' := 103) (lv' := [some (.inr (.inr (.inl (76, 277)))), some (.inl a), some (.inl b), some (.inl c), some (.inl d), some (.inl (Int32.ofNat j))]) (st' := [.inl (Int32.ofNat j)]) (m' := (f, l)) rfl rfl (fl_bo rfl) rfl ?_
      refine fl_Tq.stp (pc' := 107) (lv' := [some (.inr (.inr (.inl (76, 277)))), some (.inl a), some (.inl b), some (.inl c), some (.inl d), some (.inl (Int32.ofNat j))]) (st' := [.inl (Int32.ofNat j)]) (m' := (f, l)) rfl rfl (fl_bo rfl) rfl ?_
      exact fl_Tq.ret rfl rfl rfl (k1 h1 h2)
  · refine fl_Tq.jt rfl (fl_bo rfl) (c2_ge_t h1) rfl ?_
    refine fl_Tq.stp (pc' := 96) (lv' := [some (.inr (.inr (.inl (76, 277)))), some (.inl a), some (.inl b), some (.inl c), some (.inl d), some (.inl (Int32.ofNat j))]) (st' := [.inl (Int32.ofNat j)]) (m' := (f, l)) rfl rfl (fl_bo rfl) rfl ?_
    refine fl_Tq.cB (c := (11 : Int32)) rfl (by decide +kernel) (fl_bo rfl) ?_
    refine fl_Tq.jt rfl (fl_bo rfl) (c2_ge_t h1) rfl ?_
    refine fl_Tq.cI (c := (-1 : Int32)) rfl (by decide +kernel) (fl_bo rfl) ?_
    exact fl_Tq.ret rfl rfl rfl (k2 h1)
theorem z315_A {L : Nat} {xs : Nat → Int32} {f : t2_F} {l : t2_L} {Q : Option fl_V → fl_M → Prop} {a b : Int32}  (k : fl_Tq (pw_P L xs) 315 1 [some (.inr (.inr (.inl (76, 277)))), some (.inl a), some (.inl b), none, none] [.inr (.inr (.inl (76, 277)))] (f, l) Q) : fl_Tq (pw_P L xs) 315 0 [some (.inr (.inr (.inl (76, 277)))), some (.inl a), some (.inl b), none, none] [] (f, l) Q := by
  refine fl_Tq.stp (pc' := 1) (lv' := [some (.inr (.inr (.inl (76, 277)))), some (.inl a), some (.inl b), none, none]) (st' := [.inr (.inr (.inl (76, 277)))]) (m' := (f, l)) rfl rfl (fl_bo rfl) rfl ?_
  exact k
theorem z315_B {L : Nat} {xs : Nat → Int32} {f : t2_F} {l : t2_L} {Q : Option fl_V → fl_M → Prop} {a b : Int32}  (k : fl_Tq (pw_P L xs) 315 22 [some (.inr (.inr (.inl (76, 277)))), some (.inl a), some (.inl b), some (.inl (1 : Int32)), some (.inl (0 : Int32))] [] (fl_row (fl_row f 277 (upd (f 277) 7 (1 : Int32))) 280 (upd (f 280) 54 a), l) Q) : fl_Tq (pw_P L xs) 315 4 [some (.inr (.inr (.inl (76, 277)))), some (.inl a), some (.inl b), none, none] [] (f, l) Q := by
  refine fl_Tq.stp (pc' := 5) (lv' := [some (.inr (.inr (.inl (76, 277)))), some (.inl a), some (.inl b), none, none]) (st' := [.inr (.inr (.inl (76, 277)))]) (m' := (f, l)) rfl rfl (fl_bo rfl) rfl ?_
  refine fl_Tq.cI (c := (1 : Int32)) rfl (by decide +kernel) (fl_bo rfl) ?_
  refine fl_Tq.pfV (k := 7) (m' := (fl_row f 277 (upd (f 277) 7 (1 : Int32)), l)) rfl (fl_bo rfl) rfl (t2_upn rfl) ?_
  refine fl_Tq.stp (pc' := 10) (lv' := [some (.inr (.inr (.inl (76, 277)))), some (.inl a), some (.inl b), none, none]) (st' := [.inr (.inr (.inl (76, 277)))]) (m' := (fl_row f 277 (upd (f 277) 7 (1 : Int32)), l)) rfl rfl (fl_bo rfl) rfl ?_
  refine fl_Tq.stp (pc' := 13) (lv' := [some (.inr (.inr (.inl (76, 277)))), some (.inl a), some (.inl b), none, none]) (st' := [.inr (.inr (.inl (79, 280)))]) (m' := (fl_row f 277 (upd (f 277) 7 (1 : Int32)), l)) rfl rfl (fl_bo rfl) rfl ?_
  refine fl_Tq.cB (c := (54 : Int32)) rfl (by decide +kernel) (fl_bo rfl) ?_
  refine fl_Tq.stp (pc' := 16) (lv' := [some (.inr (.inr (.inl (76, 277)))), some (.inl a), some (.inl b), none, none]) (st' := [.inl a, .inl (54 : Int32), .inr (.inr (.inl (79, 280)))]) (m' := (fl_row f 277 (upd (f 277) 7 (1 : Int32)), l)) rfl rfl (fl_bo rfl) rfl ?_
  refine fl_Tq.svV (p := 280) (τ := 79) (n := 29780) (z := (0, 0, 0)) (k := 54) (m' := (fl_row (fl_row f 277 (upd (f 277) 7 (1 : Int32))) 280 (upd (f 280) 54 a), l)) rfl (fl_bo rfl) rfl (by decide +kernel) (by decide) (t2_upn (by rw [fl_row_ne (by decide : 280 ≠ 277)])) ?_
  refine fl_Tq.cI (c := (1 : Int32)) rfl (by decide +kernel) (fl_bo rfl) ?_
  refine fl_Tq.stp (pc' := 19) (lv' := [some (.inr (.inr (.inl (76, 277)))), some (.inl a), some (.inl b), some (.inl (1 : Int32)), none]) (st' := []) (m' := (fl_row (fl_row f 277 (upd (f 277) 7 (1 : Int32))) 280 (upd (f 280) 54 a), l)) rfl rfl (fl_bo rfl) rfl ?_
  refine fl_Tq.cI (c := (0 : Int32)) rfl (by decide +kernel) (fl_bo rfl) ?_
  refine fl_Tq.stp (pc' := 22) (lv' := [some (.inr (.inr (.inl (76, 277)))), some (.inl a), some (.inl b), some (.inl (1 : Int32)), some (.inl (0 : Int32))]) (st' := []) (m' := (fl_row (fl_row f 277 (upd (f 277) 7 (1 : Int32))) 280 (upd (f 280) 54 a), l)) rfl rfl (fl_bo rfl) rfl ?_
  exact k
theorem z315_C {L : Nat} {xs : Nat → Int32} {f : t2_F} {l : t2_L} {Q : Option fl_V → fl_M → Prop} {a b c : Int32} {j : Nat}  (k : ((Int32.ofNat j).toInt < b.toInt) → (c.toInt = 0) → fl_Tq (pw_P L xs) 315 67 [some (.inr (.inr (.inl (76, 277)))), some (.inl a), some (.inl b), some (.inl c), some (.inl (Int32.ofNat j))] [.inr (.inr (.inl (76, 277)))] (fl_row f 277 (upd (f 277) 7 (0 : Int32)), l) Q) (k1 : ((Int32.ofNat j).toInt < b.toInt) → (¬ (c.toInt = 0)) → fl_Tq (pw_P L xs) 315 33 [some (.inr (.inr (.inl (76, 277)))), some (.inl a), some (.inl b), some (.inl c), some (.inl (Int32.ofNat j))] [.inr (.inr (.inl (76, 277)))] (f, l) Q) (k2 : (¬ ((Int32.ofNat j).toInt < b.toInt)) → fl_Tq (pw_P L xs) 315 67 [some (.inr (.inr (.inl (76, 277)))), some (.inl a), some (.inl b), some (.inl c), some (.inl (Int32.ofNat j))] [.inr (.inr (.inl (76, 277)))] (fl_row f 277 (upd (f 277) 7 (0 : Int32)), l) Q) : fl_Tq (pw_P L xs) 315 22 [some (.inr (.inr (.inl (76, 277)))), some (.inl a), some (.inl b), some (.inl c), some (.inl (Int32.ofNat j))] [] (f, l) Q := by
  refine fl_Tq.stp (pc' := 24) (lv' := [some (.inr (.inr (.inl (76, 277)))), some (.inl a), some (.inl b), some (.inl c), some (.inl (Int32.ofNat j))]) (st' := [.inl (Int32.ofNat j)]) (m' := (f, l)) rfl rfl (fl_bo rfl) rfl ?_
  refine fl_Tq.stp (pc' := 25) (lv' := [some (.inr (.inr (.inl (76, 277)))), some (.inl a), some (.inl b), some (.inl c), some (.inl (Int32.ofNat j))]) (st' := [.inl b, .inl (Int32.ofNat j)]) (m' := (f, l)) rfl rfl (fl_bo rfl) rfl ?_
  by_cases h1 : (Int32.ofNat j).toInt < b.toInt
  · refine fl_Tq.jf rfl (fl_bo rfl) (c2_ge_f h1) rfl ?_
    refine fl_Tq.stp (pc' := 29) (lv' := [some (.inr (.inr (.inl (76, 277)))), some (.inl a), some (.inl b), some (.inl c), some (.inl (Int32.ofNat j))]) (st' := [.inl c]) (m' := (f, l)) rfl rfl (fl_bo rfl) rfl ?_
    by_cases h2 : c.toInt = 0
    · refine fl_Tq.zt rfl (fl_bo rfl) (c1_eq_t h2) rfl ?_
      refine fl_Tq.stp (pc' := 62) (lv' := [some (.inr (.inr (.inl (76, 277)))), some (.inl a), some (.inl b), some (.inl c), some (.inl (Int32.ofNat j))]) (st' := [.inr (.inr (.inl (76, 277)))]) (m' := (f, l)) rfl rfl (fl_bo rfl) rfl ?_
      refine fl_Tq.cI (c := (0 : Int32)) rfl (by decide +kernel) (fl_bo rfl) ?_
      refine fl_Tq.pfV (k := 7) (m' := (fl_row f 277 (upd (f 277) 7 (0 : Int32)), l)) rfl (fl_bo rfl) rfl (t2_upn rfl) ?_
      refine fl_Tq.stp (pc' := 67) (lv' := [some (.inr (.inr (.inl (76, 277)))), some (.inl a), some (.inl b), some (.inl c), some (.inl (Int32.ofNat j))]) (st' := [.inr (.inr (.inl (76, 277)))]) (m' := (fl_row f 277 (upd (f 277) 7 (0 : Int32)), l)) rfl rfl (fl_bo rfl) rfl ?_
      exact k h1 h2
    · refine fl_Tq.zf rfl (fl_bo rfl) (c1_eq_f h2) rfl ?_
      refine fl_Tq.stp (pc' := 33) (lv' := [some (.inr (.inr (.inl (76, 277)))), some (.inl a), some (.inl b), some (.inl c), some (.inl (Int32.ofNat j))]) (st' := [.inr (.inr (.inl (76, 277)))]) (m' := (f, l)) rfl rfl (fl_bo rfl) rfl ?_
      exact k1 h1 h2
  · refine fl_Tq.jt rfl (fl_bo rfl) (c2_ge_t h1) rfl ?_
    refine fl_Tq.stp (pc' := 62) (lv' := [some (.inr (.inr (.inl (76, 277)))), some (.inl a), some (.inl b), some (.inl c), some (.inl (Int32.ofNat j))]) (st' := [.inr (.inr (.inl (76, 277)))]) (m' := (f, l)) rfl rfl (fl_bo rfl) rfl ?_
    refine fl_Tq.cI (c := (0 : Int32)) rfl (by decide +kernel) (fl_bo rfl) ?_
    refine fl_Tq.pfV (k := 7) (m' := (fl_row f 277 (upd (f 277) 7 (0 : Int32)), l)) rfl (fl_bo rfl) rfl (t2_upn rfl) ?_
    refine fl_Tq.stp (pc' := 67) (lv' := [some (.inr (.inr (.inl (76, 277)))), some (.inl a), some (.inl b), some (.inl c), some (.inl (Int32.ofNat j))]) (st' := [.inr (.inr (.inl (76, 277)))]) (m' := (fl_row f 277 (upd (f 277) 7 (0 : Int32)), l)) rfl rfl (fl_bo rfl) rfl ?_
    exact k2 h1
noncomputable def z315_D_j36_0 (f : t2_F) (a b c z : Int32) (j : Nat) : Int32 := if z.toInt = 0 then (if (f 280 5).toInt = a.toInt then (1 : Int32) else (0 : Int32)) else (0 : Int32)
theorem z315_D {L : Nat} {xs : Nat → Int32} {f : t2_F} {l : t2_L} {Q : Option fl_V → fl_M → Prop} {a b c z : Int32} {j : Nat}  (k : fl_Tq (pw_P L xs) 315 22 [some (.inr (.inr (.inl (76, 277)))), some (.inl a), some (.inl b), some (.inl (z315_D_j36_0 f a b c z j)), some (.inl ((Int32.ofNat j) + (1 : Int32)))] [] (f, l) Q) : fl_Tq (pw_P L xs) 315 36 [some (.inr (.inr (.inl (76, 277)))), some (.inl a), some (.inl b), some (.inl c), some (.inl (Int32.ofNat j))] [.inl z] (f, l) Q := by
  have hj123 : fl_Tq (pw_P L xs) 315 54 [some (.inr (.inr (.inl (76, 277)))), some (.inl a), some (.inl b), some (.inl c), some (.inl (Int32.ofNat j))] [.inl (z315_D_j36_0 f a b c z j)] (f, l) Q → fl_Tq (pw_P L xs) 315 36 [some (.inr (.inr (.inl (76, 277)))), some (.inl a), some (.inl b), some (.inl c), some (.inl (Int32.ofNat j))] [.inl z] (f, l) Q := by
    intro hJ
    by_cases h1 : z.toInt = 0
    · refine fl_Tq.zf rfl (fl_bo rfl) (c1_ne_f h1) rfl ?_
      refine fl_Tq.stp (pc' := 40) (lv' := [some (.inr (.inr (.inl (76, 277)))), some (.inl a), some (.inl b), some (.inl c), some (.inl (Int32.ofNat j))]) (st' := [.inr (.inr (.inl (76, 277)))]) (m' := (f, l)) rfl rfl (fl_bo rfl) rfl ?_
      refine fl_Tq.stp (pc' := 43) (lv' := [some (.inr (.inr (.inl (76, 277)))), some (.inl a), some (.inl b), some (.inl c), some (.inl (Int32.ofNat j))]) (st' := [.inr (.inr (.inl (79, 280)))]) (m' := (f, l)) rfl rfl (fl_bo rfl) rfl ?_
      refine fl_Tq.cI (c := (5 : Int32)) rfl (by decide +kernel) (fl_bo rfl) ?_
      refine fl_Tq.ldV (p := 280) (τ := 79) (n := 29780) (z := (0, 0, 0)) (k := 5) (v := f 280 5) rfl (fl_bo rfl) rfl (by decide +kernel) (by decide) rfl ?_
      refine fl_Tq.stp (pc' := 46) (lv' := [some (.inr (.inr (.inl (76, 277)))), some (.inl a), some (.inl b), some (.inl c), some (.inl (Int32.ofNat j))]) (st' := [.inl a, .inl (f 280 5)]) (m' := (f, l)) rfl rfl (fl_bo rfl) rfl ?_
      by_cases h2 : (f 280 5).toInt = a.toInt
      · refine fl_Tq.jf rfl (fl_bo rfl) (c2_ne_f h2) rfl ?_
        refine fl_Tq.cI (c := (1 : Int32)) rfl (by decide +kernel) (fl_bo rfl) ?_
        refine fl_Tq.stp (pc' := 54) (lv' := [some (.inr (.inr (.inl (76, 277)))), some (.inl a), some (.inl b), some (.inl c), some (.inl (Int32.ofNat j))]) (st' := [.inl (1 : Int32)]) (m' := (f, l)) rfl rfl (fl_bo rfl) rfl ?_
        have e0 : (z315_D_j36_0 f a b c z j) = (1 : Int32) := by simp only [z315_D_j36_0, if_pos h1, if_pos h2]
        rw [e0] at hJ
        exact hJ
      · refine fl_Tq.jt rfl (fl_bo rfl) (c2_ne_t h2) rfl ?_
        refine fl_Tq.cI (c := (0 : Int32)) rfl (by decide +kernel) (fl_bo rfl) ?_
        have e0 : (z315_D_j36_0 f a b c z j) = (0 : Int32) := by simp only [z315_D_j36_0, if_pos h1, if_neg h2]
        rw [e0] at hJ
        exact hJ
    · refine fl_Tq.zt rfl (fl_bo rfl) (c1_ne_t h1) rfl ?_
      refine fl_Tq.cI (c := (0 : Int32)) rfl (by decide +kernel) (fl_bo rfl) ?_
      have e0 : (z315_D_j36_0 f a b c z j) = (0 : Int32) := by simp only [z315_D_j36_0, if_neg h1]
      rw [e0] at hJ
      exact hJ
  refine hj123 ?_
  show fl_Tq _ 315 54 [some (.inr (.inr (.inl (76, 277)))), some (.inl a), some (.inl b), some (.inl c), some (.inl (Int32.ofNat j))] [.inl (z315_D_j36_0 f a b c z j)] (f, l) _
  refine fl_Tq.stp (pc' := 55) (lv' := [some (.inr (.inr (.inl (76, 277)))), some (.inl a), some (.inl b), some (.inl (z315_D_j36_0 f a b c z j)), some (.inl (Int32.ofNat j))]) (st' := []) (m' := (f, l)) rfl rfl (fl_bo rfl) rfl ?_
  refine fl_Tq.stp (pc' := 58) (lv' := [some (.inr (.inr (.inl (76, 277)))), some (.inl a), some (.inl b), some (.inl (z315_D_j36_0 f a b c z j)), some (.inl ((Int32.ofNat j) + (1 : Int32)))]) (st' := []) (m' := (f, l)) rfl rfl (fl_bo rfl) rfl ?_
  refine fl_Tq.stp (pc' := 22) (lv' := [some (.inr (.inr (.inl (76, 277)))), some (.inl a), some (.inl b), some (.inl (z315_D_j36_0 f a b c z j)), some (.inl ((Int32.ofNat j) + (1 : Int32)))]) (st' := []) (m' := (f, l)) rfl rfl (fl_bo rfl) rfl ?_
  exact k
theorem z316_A {L : Nat} {xs : Nat → Int32} {f : t2_F} {l : t2_L} {Q : Option fl_V → fl_M → Prop} {a b : Int32}  (k : ((r_isIn_v a (0 : Int32) (1 : Int32)).toInt = 0) → Q (some (.inl (-1 : Int32))) (f, l)) (k1 : (¬ ((r_isIn_v a (0 : Int32) (1 : Int32)).toInt = 0)) → fl_Tq (pw_P L xs) 316 13 [some (.inr (.inr (.inl (76, 277)))), some (.inl a), some (.inl b), none] [.inl (60 : Int32), .inl b, .inr (.inr (.inl (76, 277)))] (f, l) Q) : fl_Tq (pw_P L xs) 316 0 [some (.inr (.inr (.inl (76, 277)))), some (.inl a), some (.inl b), none] [] (f, l) Q := by
  refine fl_Tq.stp (pc' := 1) (lv' := [some (.inr (.inr (.inl (76, 277)))), some (.inl a), some (.inl b), none]) (st' := [.inl a]) (m' := (f, l)) rfl rfl (fl_bo rfl) rfl ?_
  refine fl_Tq.cI (c := (0 : Int32)) rfl (by decide +kernel) (fl_bo rfl) ?_
  refine fl_Tq.cI (c := (1 : Int32)) rfl (by decide +kernel) (fl_bo rfl) ?_
  refine fl_Tq.cal rfl rfl (fl_bo rfl) rfl ?_
  refine r_isIn_q  ?_
  show fl_Tq _ 316 6 [some (.inr (.inr (.inl (76, 277)))), some (.inl a), some (.inl b), none] [.inl (r_isIn_v a (0 : Int32) (1 : Int32))] (f, l) _
  by_cases h1 : (r_isIn_v a (0 : Int32) (1 : Int32)).toInt = 0
  · refine fl_Tq.zt rfl (fl_bo rfl) (c1_eq_t h1) rfl ?_
    refine fl_Tq.cI (c := (-1 : Int32)) rfl (by decide +kernel) (fl_bo rfl) ?_
    exact fl_Tq.ret rfl rfl rfl (k h1)
  · refine fl_Tq.zf rfl (fl_bo rfl) (c1_eq_f h1) rfl ?_
    refine fl_Tq.stp (pc' := 10) (lv' := [some (.inr (.inr (.inl (76, 277)))), some (.inl a), some (.inl b), none]) (st' := [.inr (.inr (.inl (76, 277)))]) (m' := (f, l)) rfl rfl (fl_bo rfl) rfl ?_
    refine fl_Tq.stp (pc' := 11) (lv' := [some (.inr (.inr (.inl (76, 277)))), some (.inl a), some (.inl b), none]) (st' := [.inl b, .inr (.inr (.inl (76, 277)))]) (m' := (f, l)) rfl rfl (fl_bo rfl) rfl ?_
    refine fl_Tq.cB (c := (60 : Int32)) rfl (by decide +kernel) (fl_bo rfl) ?_
    exact k1 h1
theorem z316_B {L : Nat} {xs : Nat → Int32} {f : t2_F} {l : t2_L} {Q : Option fl_V → fl_M → Prop} {a b z : Int32}  (k : (z.toInt = 0) → Q (some (.inl (-1 : Int32))) (f, l)) (k1 : (¬ (z.toInt = 0)) → ((f 280 3).toInt = (2 : Int32).toInt) → fl_Tq (pw_P L xs) 316 43 [some (.inr (.inr (.inl (76, 277)))), some (.inl a), some (.inl b), some (.inl (((f 280 38) / (100 : Int32)) * (100 : Int32)))] [] (f, l) Q) (k2 : (¬ (z.toInt = 0)) → (¬ ((f 280 3).toInt = (2 : Int32).toInt)) → Q (some (.inl (-1 : Int32))) (f, l)) : fl_Tq (pw_P L xs) 316 16 [some (.inr (.inr (.inl (76, 277)))), some (.inl a), some (.inl b), none] [.inl z] (f, l) Q := by
  by_cases h1 : z.toInt = 0
  · refine fl_Tq.zt rfl (fl_bo rfl) (c1_eq_t h1) rfl ?_
    refine fl_Tq.cI (c := (-1 : Int32)) rfl (by decide +kernel) (fl_bo rfl) ?_
    exact fl_Tq.ret rfl rfl rfl (k h1)
  · refine fl_Tq.zf rfl (fl_bo rfl) (c1_eq_f h1) rfl ?_
    refine fl_Tq.stp (pc' := 20) (lv' := [some (.inr (.inr (.inl (76, 277)))), some (.inl a), some (.inl b), none]) (st' := [.inr (.inr (.inl (76, 277)))]) (m' := (f, l)) rfl rfl (fl_bo rfl) rfl ?_
    refine fl_Tq.stp (pc' := 23) (lv' := [some (.inr (.inr (.inl (76, 277)))), some (.inl a), some (.inl b), none]) (st' := [.inr (.inr (.inl (79, 280)))]) (m' := (f, l)) rfl rfl (fl_bo rfl) rfl ?_
    refine fl_Tq.cI (c := (3 : Int32)) rfl (by decide +kernel) (fl_bo rfl) ?_
    refine fl_Tq.ldV (p := 280) (τ := 79) (n := 29780) (z := (0, 0, 0)) (k := 3) (v := f 280 3) rfl (fl_bo rfl) rfl (by decide +kernel) (by decide) rfl ?_
    refine fl_Tq.cI (c := (2 : Int32)) rfl (by decide +kernel) (fl_bo rfl) ?_
    by_cases h2 : (f 280 3).toInt = (2 : Int32).toInt
    · refine fl_Tq.jt rfl (fl_bo rfl) (c2_eq_t h2) rfl ?_
      refine fl_Tq.stp (pc' := 32) (lv' := [some (.inr (.inr (.inl (76, 277)))), some (.inl a), some (.inl b), none]) (st' := [.inr (.inr (.inl (76, 277)))]) (m' := (f, l)) rfl rfl (fl_bo rfl) rfl ?_
      refine fl_Tq.cI (c := (4 : Int32)) rfl (by decide +kernel) (fl_bo rfl) ?_
      refine fl_Tq.cal rfl rfl (fl_bo rfl) rfl ?_
      refine t2_its (W := 4) (v := f 280 38) (by decide +kernel) (by decide) rfl ?_
      show fl_Tq _ 316 36 [some (.inr (.inr (.inl (76, 277)))), some (.inl a), some (.inl b), none] [.inl (f 280 38)] (f, l) _
      refine fl_Tq.cB (c := (100 : Int32)) rfl (by decide +kernel) (fl_bo rfl) ?_
      refine fl_Tq.dv rfl (fl_bo rfl) (by decide +kernel) ?_
      refine fl_Tq.cB (c := (100 : Int32)) rfl (by decide +kernel) (fl_bo rfl) ?_
      refine fl_Tq.stp (pc' := 42) (lv' := [some (.inr (.inr (.inl (76, 277)))), some (.inl a), some (.inl b), none]) (st' := [.inl (((f 280 38) / (100 : Int32)) * (100 : Int32))]) (m' := (f, l)) rfl rfl (fl_bo rfl) rfl ?_
      refine fl_Tq.stp (pc' := 43) (lv' := [some (.inr (.inr (.inl (76, 277)))), some (.inl a), some (.inl b), some (.inl (((f 280 38) / (100 : Int32)) * (100 : Int32)))]) (st' := []) (m' := (f, l)) rfl rfl (fl_bo rfl) rfl ?_
      exact k1 h1 h2
    · refine fl_Tq.jf rfl (fl_bo rfl) (c2_eq_f h2) rfl ?_
      refine fl_Tq.cI (c := (-1 : Int32)) rfl (by decide +kernel) (fl_bo rfl) ?_
      exact fl_Tq.ret rfl rfl rfl (k2 h1 h2)
theorem z316_C {L : Nat} {xs : Nat → Int32} {f : t2_F} {l : t2_L} {Q : Option fl_V → fl_M → Prop} {a b c : Int32}  (k : (0 < c.toInt) → fl_Tq (pw_P L xs) 316 59 [some (.inr (.inr (.inl (76, 277)))), some (.inl a), some (.inl b), some (.inl c)] [.inl b, .inl (if a.toInt = 0 then c else -c), .inr (.inr (.inl (76, 277)))] (f, l) Q) (k1 : (¬ (0 < c.toInt)) → Q (some (.inl (0 : Int32))) (f, l)) : fl_Tq (pw_P L xs) 316 43 [some (.inr (.inr (.inl (76, 277)))), some (.inl a), some (.inl b), some (.inl c)] [] (f, l) Q := by
  refine fl_Tq.stp (pc' := 44) (lv' := [some (.inr (.inr (.inl (76, 277)))), some (.inl a), some (.inl b), some (.inl c)]) (st' := [.inl c]) (m' := (f, l)) rfl rfl (fl_bo rfl) rfl ?_
  by_cases h1 : 0 < c.toInt
  · refine fl_Tq.zf rfl (fl_bo rfl) (c1_le_f h1) rfl ?_
    refine fl_Tq.stp (pc' := 48) (lv' := [some (.inr (.inr (.inl (76, 277)))), some (.inl a), some (.inl b), some (.inl c)]) (st' := [.inr (.inr (.inl (76, 277)))]) (m' := (f, l)) rfl rfl (fl_bo rfl) rfl ?_
    refine fl_Tq.stp (pc' := 49) (lv' := [some (.inr (.inr (.inl (76, 277)))), some (.inl a), some (.inl b), some (.inl c)]) (st' := [.inl a, .inr (.inr (.inl (76, 277)))]) (m' := (f, l)) rfl rfl (fl_bo rfl) rfl ?_
    have hj124 : fl_Tq (pw_P L xs) 316 58 [some (.inr (.inr (.inl (76, 277)))), some (.inl a), some (.inl b), some (.inl c)] [.inl (if a.toInt = 0 then c else -c), .inr (.inr (.inl (76, 277)))] (f, l) Q → fl_Tq (pw_P L xs) 316 49 [some (.inr (.inr (.inl (76, 277)))), some (.inl a), some (.inl b), some (.inl c)] [.inl a, .inr (.inr (.inl (76, 277)))] (f, l) Q := by
      intro hJ
      by_cases h2 : a.toInt = 0
      · refine fl_Tq.zf rfl (fl_bo rfl) (c1_ne_f h2) rfl ?_
        refine fl_Tq.stp (pc' := 53) (lv' := [some (.inr (.inr (.inl (76, 277)))), some (.inl a), some (.inl b), some (.inl c)]) (st' := [.inl c, .inr (.inr (.inl (76, 277)))]) (m' := (f, l)) rfl rfl (fl_bo rfl) rfl ?_
        refine fl_Tq.stp (pc' := 58) (lv' := [some (.inr (.inr (.inl (76, 277)))), some (.inl a), some (.inl b), some (.inl c)]) (st' := [.inl c, .inr (.inr (.inl (76, 277)))]) (m' := (f, l)) rfl rfl (fl_bo rfl) rfl ?_
        have e0 : (if a.toInt = 0 then c else -c) = c := by simp only [if_pos h2]
        rw [e0] at hJ
        exact hJ
      · refine fl_Tq.zt rfl (fl_bo rfl) (c1_ne_t h2) rfl ?_
        refine fl_Tq.stp (pc' := 57) (lv' := [some (.inr (.inr (.inl (76, 277)))), some (.inl a), some (.inl b), some (.inl c)]) (st' := [.inl c, .inr (.inr (.inl (76, 277)))]) (m' := (f, l)) rfl rfl (fl_bo rfl) rfl ?_
        refine fl_Tq.stp (pc' := 58) (lv' := [some (.inr (.inr (.inl (76, 277)))), some (.inl a), some (.inl b), some (.inl c)]) (st' := [.inl (-c), .inr (.inr (.inl (76, 277)))]) (m' := (f, l)) rfl rfl (fl_bo rfl) rfl ?_
        have e0 : (if a.toInt = 0 then c else -c) = -c := by simp only [if_neg h2]
        rw [e0] at hJ
        exact hJ
    refine hj124 ?_
    show fl_Tq _ 316 58 [some (.inr (.inr (.inl (76, 277)))), some (.inl a), some (.inl b), some (.inl c)] [.inl (if a.toInt = 0 then c else -c), .inr (.inr (.inl (76, 277)))] (f, l) _
    refine fl_Tq.stp (pc' := 59) (lv' := [some (.inr (.inr (.inl (76, 277)))), some (.inl a), some (.inl b), some (.inl c)]) (st' := [.inl b, .inl (if a.toInt = 0 then c else -c), .inr (.inr (.inl (76, 277)))]) (m' := (f, l)) rfl rfl (fl_bo rfl) rfl ?_
    exact k h1
  · refine fl_Tq.zt rfl (fl_bo rfl) (c1_le_t h1) rfl ?_
    refine fl_Tq.cI (c := (0 : Int32)) rfl (by decide +kernel) (fl_bo rfl) ?_
    exact fl_Tq.ret rfl rfl rfl (k1 h1)
theorem z316_D {L : Nat} {xs : Nat → Int32} {f : t2_F} {l : t2_L} {Q : Option fl_V → fl_M → Prop} {a b c z : Int32}  (k : (z.toInt = 0) → fl_Tq (pw_P L xs) 316 43 [some (.inr (.inr (.inl (76, 277)))), some (.inl a), some (.inl b), some (.inl (c + (-100 : Int32)))] [] (f, l) Q) (k1 : (¬ (z.toInt = 0)) → Q (some (.inl (if a.toInt = 0 then c else -c))) (f, l)) : fl_Tq (pw_P L xs) 316 62 [some (.inr (.inr (.inl (76, 277)))), some (.inl a), some (.inl b), some (.inl c)] [.inl z] (f, l) Q := by
  by_cases h1 : z.toInt = 0
  · refine fl_Tq.zt rfl (fl_bo rfl) (c1_eq_t h1) rfl ?_
    refine fl_Tq.stp (pc' := 79) (lv' := [some (.inr (.inr (.inl (76, 277)))), some (.inl a), some (.inl b), some (.inl (c + (-100 : Int32)))]) (st' := []) (m' := (f, l)) rfl rfl (fl_bo rfl) rfl ?_
    refine fl_Tq.stp (pc' := 43) (lv' := [some (.inr (.inr (.inl (76, 277)))), some (.inl a), some (.inl b), some (.inl (c + (-100 : Int32)))]) (st' := []) (m' := (f, l)) rfl rfl (fl_bo rfl) rfl ?_
    exact k h1
  · refine fl_Tq.zf rfl (fl_bo rfl) (c1_eq_f h1) rfl ?_
    refine fl_Tq.stp (pc' := 66) (lv' := [some (.inr (.inr (.inl (76, 277)))), some (.inl a), some (.inl b), some (.inl c)]) (st' := [.inl a]) (m' := (f, l)) rfl rfl (fl_bo rfl) rfl ?_
    have hj125 : fl_Tq (pw_P L xs) 316 75 [some (.inr (.inr (.inl (76, 277)))), some (.inl a), some (.inl b), some (.inl c)] [.inl (if a.toInt = 0 then c else -c)] (f, l) Q → fl_Tq (pw_P L xs) 316 66 [some (.inr (.inr (.inl (76, 277)))), some (.inl a), some (.inl b), some (.inl c)] [.inl a] (f, l) Q := by
      intro hJ
      by_cases h2 : a.toInt = 0
      · refine fl_Tq.zf rfl (fl_bo rfl) (c1_ne_f h2) rfl ?_
        refine fl_Tq.stp (pc' := 70) (lv' := [some (.inr (.inr (.inl (76, 277)))), some (.inl a), some (.inl b), some (.inl c)]) (st' := [.inl c]) (m' := (f, l)) rfl rfl (fl_bo rfl) rfl ?_
        refine fl_Tq.stp (pc' := 75) (lv' := [some (.inr (.inr (.inl (76, 277)))), some (.inl a), some (.inl b), some (.inl c)]) (st' := [.inl c]) (m' := (f, l)) rfl rfl (fl_bo rfl) rfl ?_
        have e0 : (if a.toInt = 0 then c else -c) = c := by simp only [if_pos h2]
        rw [e0] at hJ
        exact hJ
      · refine fl_Tq.zt rfl (fl_bo rfl) (c1_ne_t h2) rfl ?_
        refine fl_Tq.stp (pc' := 74) (lv' := [some (.inr (.inr (.inl (76, 277)))), some (.inl a), some (.inl b), some (.inl c)]) (st' := [.inl c]) (m' := (f, l)) rfl rfl (fl_bo rfl) rfl ?_
        refine fl_Tq.stp (pc' := 75) (lv' := [some (.inr (.inr (.inl (76, 277)))), some (.inl a), some (.inl b), some (.inl c)]) (st' := [.inl (-c)]) (m' := (f, l)) rfl rfl (fl_bo rfl) rfl ?_
        have e0 : (if a.toInt = 0 then c else -c) = -c := by simp only [if_neg h2]
        rw [e0] at hJ
        exact hJ
    refine hj125 ?_
    show fl_Tq _ 316 75 [some (.inr (.inr (.inl (76, 277)))), some (.inl a), some (.inl b), some (.inl c)] [.inl (if a.toInt = 0 then c else -c)] (f, l) _
    exact fl_Tq.ret rfl rfl rfl (k1 h1)
theorem z317_A {L : Nat} {xs : Nat → Int32} {f : t2_F} {l : t2_L} {Q : Option fl_V → fl_M → Prop} {a : Int32}  (k : ((r_isIn_v a (1 : Int32) (99999 : Int32)).toInt = 0) → Q (some (.inl (-1 : Int32))) (f, l)) (k1 : (¬ ((r_isIn_v a (1 : Int32) (99999 : Int32)).toInt = 0)) → fl_Tq (pw_P L xs) 317 13 [some (.inr (.inr (.inl (76, 277)))), some (.inl a), none, none, none] [.inr (.inr (.inl (76, 277)))] (f, l) Q) : fl_Tq (pw_P L xs) 317 0 [some (.inr (.inr (.inl (76, 277)))), some (.inl a), none, none, none] [] (f, l) Q := by
  refine fl_Tq.stp (pc' := 1) (lv' := [some (.inr (.inr (.inl (76, 277)))), some (.inl a), none, none, none]) (st' := [.inl a]) (m' := (f, l)) rfl rfl (fl_bo rfl) rfl ?_
  refine fl_Tq.cI (c := (1 : Int32)) rfl (by decide +kernel) (fl_bo rfl) ?_
  refine fl_Tq.stp (pc' := 4) (lv' := [some (.inr (.inr (.inl (76, 277)))), some (.inl a), none, none, none]) (st' := [.inl (99999 : Int32), .inl (1 : Int32), .inl a]) (m' := (f, l)) rfl rfl (fl_bo rfl) rfl ?_
  refine fl_Tq.cal rfl rfl (fl_bo rfl) rfl ?_
  refine r_isIn_q  ?_
  show fl_Tq _ 317 7 [some (.inr (.inr (.inl (76, 277)))), some (.inl a), none, none, none] [.inl (r_isIn_v a (1 : Int32) (99999 : Int32))] (f, l) _
  by_cases h1 : (r_isIn_v a (1 : Int32) (99999 : Int32)).toInt = 0
  · refine fl_Tq.zf rfl (fl_bo rfl) (c1_ne_f h1) rfl ?_
    refine fl_Tq.cI (c := (-1 : Int32)) rfl (by decide +kernel) (fl_bo rfl) ?_
    exact fl_Tq.ret rfl rfl rfl (k h1)
  · refine fl_Tq.zt rfl (fl_bo rfl) (c1_ne_t h1) rfl ?_
    refine fl_Tq.stp (pc' := 13) (lv' := [some (.inr (.inr (.inl (76, 277)))), some (.inl a), none, none, none]) (st' := [.inr (.inr (.inl (76, 277)))]) (m' := (f, l)) rfl rfl (fl_bo rfl) rfl ?_
    exact k1 h1
theorem z317_B {L : Nat} {xs : Nat → Int32} {f : t2_F} {l : t2_L} {Q : Option fl_V → fl_M → Prop} {a : Int32}  (k : fl_Tq (pw_P L xs) 317 37 [some (.inr (.inr (.inl (76, 277)))), some (.inl a), some (.inl (0 : Int32)), some (.inl (0 : Int32)), some (.inl (0 : Int32))] [] (fl_row (fl_row f 277 (upd (f 277) 7 (1 : Int32))) 280 (upd (f 280) 54 (-a)), l) Q) : fl_Tq (pw_P L xs) 317 16 [some (.inr (.inr (.inl (76, 277)))), some (.inl a), none, none, none] [] (f, l) Q := by
  refine fl_Tq.stp (pc' := 17) (lv' := [some (.inr (.inr (.inl (76, 277)))), some (.inl a), none, none, none]) (st' := [.inr (.inr (.inl (76, 277)))]) (m' := (f, l)) rfl rfl (fl_bo rfl) rfl ?_
  refine fl_Tq.cI (c := (1 : Int32)) rfl (by decide +kernel) (fl_bo rfl) ?_
  refine fl_Tq.pfV (k := 7) (m' := (fl_row f 277 (upd (f 277) 7 (1 : Int32)), l)) rfl (fl_bo rfl) rfl (t2_upn rfl) ?_
  refine fl_Tq.stp (pc' := 22) (lv' := [some (.inr (.inr (.inl (76, 277)))), some (.inl a), none, none, none]) (st' := [.inr (.inr (.inl (76, 277)))]) (m' := (fl_row f 277 (upd (f 277) 7 (1 : Int32)), l)) rfl rfl (fl_bo rfl) rfl ?_
  refine fl_Tq.stp (pc' := 25) (lv' := [some (.inr (.inr (.inl (76, 277)))), some (.inl a), none, none, none]) (st' := [.inr (.inr (.inl (79, 280)))]) (m' := (fl_row f 277 (upd (f 277) 7 (1 : Int32)), l)) rfl rfl (fl_bo rfl) rfl ?_
  refine fl_Tq.cB (c := (54 : Int32)) rfl (by decide +kernel) (fl_bo rfl) ?_
  refine fl_Tq.stp (pc' := 28) (lv' := [some (.inr (.inr (.inl (76, 277)))), some (.inl a), none, none, none]) (st' := [.inl a, .inl (54 : Int32), .inr (.inr (.inl (79, 280)))]) (m' := (fl_row f 277 (upd (f 277) 7 (1 : Int32)), l)) rfl rfl (fl_bo rfl) rfl ?_
  refine fl_Tq.stp (pc' := 29) (lv' := [some (.inr (.inr (.inl (76, 277)))), some (.inl a), none, none, none]) (st' := [.inl (-a), .inl (54 : Int32), .inr (.inr (.inl (79, 280)))]) (m' := (fl_row f 277 (upd (f 277) 7 (1 : Int32)), l)) rfl rfl (fl_bo rfl) rfl ?_
  refine fl_Tq.svV (p := 280) (τ := 79) (n := 29780) (z := (0, 0, 0)) (k := 54) (m' := (fl_row (fl_row f 277 (upd (f 277) 7 (1 : Int32))) 280 (upd (f 280) 54 (-a)), l)) rfl (fl_bo rfl) rfl (by decide +kernel) (by decide) (t2_upn (by rw [fl_row_ne (by decide : 280 ≠ 277)])) ?_
  refine fl_Tq.cI (c := (0 : Int32)) rfl (by decide +kernel) (fl_bo rfl) ?_
  refine fl_Tq.stp (pc' := 32) (lv' := [some (.inr (.inr (.inl (76, 277)))), some (.inl a), some (.inl (0 : Int32)), none, none]) (st' := []) (m' := (fl_row (fl_row f 277 (upd (f 277) 7 (1 : Int32))) 280 (upd (f 280) 54 (-a)), l)) rfl rfl (fl_bo rfl) rfl ?_
  refine fl_Tq.cI (c := (0 : Int32)) rfl (by decide +kernel) (fl_bo rfl) ?_
  refine fl_Tq.stp (pc' := 34) (lv' := [some (.inr (.inr (.inl (76, 277)))), some (.inl a), some (.inl (0 : Int32)), some (.inl (0 : Int32)), none]) (st' := []) (m' := (fl_row (fl_row f 277 (upd (f 277) 7 (1 : Int32))) 280 (upd (f 280) 54 (-a)), l)) rfl rfl (fl_bo rfl) rfl ?_
  refine fl_Tq.cI (c := (0 : Int32)) rfl (by decide +kernel) (fl_bo rfl) ?_
  refine fl_Tq.stp (pc' := 37) (lv' := [some (.inr (.inr (.inl (76, 277)))), some (.inl a), some (.inl (0 : Int32)), some (.inl (0 : Int32)), some (.inl (0 : Int32))]) (st' := []) (m' := (fl_row (fl_row f 277 (upd (f 277) 7 (1 : Int32))) 280 (upd (f 280) 54 (-a)), l)) rfl rfl (fl_bo rfl) rfl ?_
  exact k
theorem z317_C {L : Nat} {xs : Nat → Int32} {f : t2_F} {l : t2_L} {Q : Option fl_V → fl_M → Prop} {a b c : Int32} {j : Nat}  (k : (c.toInt = 0) → ((Int32.ofNat j).toInt < (2000 : Int32).toInt) → ((f 280 7).toInt < (9999 : Int32).toInt) → fl_Tq (pw_P L xs) 317 64 [some (.inr (.inr (.inl (76, 277)))), some (.inl a), some (.inl (Int32.ofNat j)), some (.inl b), some (.inl c)] [.inr (.inr (.inl (76, 277))), .inl b] (f, l) Q) (k1 : (c.toInt = 0) → ((Int32.ofNat j).toInt < (2000 : Int32).toInt) → (¬ ((f 280 7).toInt < (9999 : Int32).toInt)) → fl_Tq (pw_P L xs) 317 99 [some (.inr (.inr (.inl (76, 277)))), some (.inl a), some (.inl (Int32.ofNat j)), some (.inl b), some (.inl c)] [.inr (.inr (.inl (76, 277)))] (fl_row f 277 (upd (f 277) 7 (0 : Int32)), l) Q) (k2 : (c.toInt = 0) → (¬ ((Int32.ofNat j).toInt < (2000 : Int32).toInt)) → fl_Tq (pw_P L xs) 317 99 [some (.inr (.inr (.inl (76, 277)))), some (.inl a), some (.inl (Int32.ofNat j)), some (.inl b), some (.inl c)] [.inr (.inr (.inl (76, 277)))] (fl_row f 277 (upd (f 277) 7 (0 : Int32)), l) Q) (k3 : (¬ (c.toInt = 0)) → fl_Tq (pw_P L xs) 317 99 [some (.inr (.inr (.inl (76, 277)))), some (.inl a), some (.inl (Int32.ofNat j)), some (.inl b), some (.inl c)] [.inr (.inr (.inl (76, 277)))] (fl_row f 277 (upd (f 277) 7 (0 : Int32)), l) Q) : fl_Tq (pw_P L xs) 317 37 [some (.inr (.inr (.inl (76, 277)))), some (.inl a), some (.inl (Int32.ofNat j)), some (.inl b), some (.inl c)] [] (f, l) Q := by
  refine fl_Tq.stp (pc' := 39) (lv' := [some (.inr (.inr (.inl (76, 277)))), some (.inl a), some (.inl (Int32.ofNat j)), some (.inl b), some (.inl c)]) (st' := [.inl c]) (m' := (f, l)) rfl rfl (fl_bo rfl) rfl ?_
  by_cases h1 : c.toInt = 0
  · refine fl_Tq.zf rfl (fl_bo rfl) (c1_ne_f h1) rfl ?_
    refine fl_Tq.stp (pc' := 43) (lv' := [some (.inr (.inr (.inl (76, 277)))), some (.inl a), some (.inl (Int32.ofNat j)), some (.inl b), some (.inl c)]) (st' := [.inl (Int32.ofNat j)]) (m' := (f, l)) rfl rfl (fl_bo rfl) rfl ?_
    refine fl_Tq.cS (c := (2000 : Int32)) rfl (by decide +kernel) (fl_bo rfl) ?_
    by_cases h2 : (Int32.ofNat j).toInt < (2000 : Int32).toInt
    · refine fl_Tq.jf rfl (fl_bo rfl) (c2_ge_f h2) rfl ?_
      refine fl_Tq.stp (pc' := 50) (lv' := [some (.inr (.inr (.inl (76, 277)))), some (.inl a), some (.inl (Int32.ofNat j)), some (.inl b), some (.inl c)]) (st' := [.inr (.inr (.inl (76, 277)))]) (m' := (f, l)) rfl rfl (fl_bo rfl) rfl ?_
      refine fl_Tq.stp (pc' := 53) (lv' := [some (.inr (.inr (.inl (76, 277)))), some (.inl a), some (.inl (Int32.ofNat j)), some (.inl b), some (.inl c)]) (st' := [.inr (.inr (.inl (79, 280)))]) (m' := (f, l)) rfl rfl (fl_bo rfl) rfl ?_
      refine fl_Tq.cB (c := (7 : Int32)) rfl (by decide +kernel) (fl_bo rfl) ?_
      refine fl_Tq.ldV (p := 280) (τ := 79) (n := 29780) (z := (0, 0, 0)) (k := 7) (v := f 280 7) rfl (fl_bo rfl) rfl (by decide +kernel) (by decide) rfl ?_
      refine fl_Tq.cS (c := (9999 : Int32)) rfl (by decide +kernel) (fl_bo rfl) ?_
      by_cases h3 : (f 280 7).toInt < (9999 : Int32).toInt
      · refine fl_Tq.jf rfl (fl_bo rfl) (c2_ge_f h3) rfl ?_
        refine fl_Tq.stp (pc' := 63) (lv' := [some (.inr (.inr (.inl (76, 277)))), some (.inl a), some (.inl (Int32.ofNat j)), some (.inl b), some (.inl c)]) (st' := [.inl b]) (m' := (f, l)) rfl rfl (fl_bo rfl) rfl ?_
        refine fl_Tq.stp (pc' := 64) (lv' := [some (.inr (.inr (.inl (76, 277)))), some (.inl a), some (.inl (Int32.ofNat j)), some (.inl b), some (.inl c)]) (st' := [.inr (.inr (.inl (76, 277))), .inl b]) (m' := (f, l)) rfl rfl (fl_bo rfl) rfl ?_
        exact k h1 h2 h3
      · refine fl_Tq.jt rfl (fl_bo rfl) (c2_ge_t h3) rfl ?_
        refine fl_Tq.stp (pc' := 94) (lv' := [some (.inr (.inr (.inl (76, 277)))), some (.inl a), some (.inl (Int32.ofNat j)), some (.inl b), some (.inl c)]) (st' := [.inr (.inr (.inl (76, 277)))]) (m' := (f, l)) rfl rfl (fl_bo rfl) rfl ?_
        refine fl_Tq.cI (c := (0 : Int32)) rfl (by decide +kernel) (fl_bo rfl) ?_
        refine fl_Tq.pfV (k := 7) (m' := (fl_row f 277 (upd (f 277) 7 (0 : Int32)), l)) rfl (fl_bo rfl) rfl (t2_upn rfl) ?_
        refine fl_Tq.stp (pc' := 99) (lv' := [some (.inr (.inr (.inl (76, 277)))), some (.inl a), some (.inl (Int32.ofNat j)), some (.inl b), some (.inl c)]) (st' := [.inr (.inr (.inl (76, 277)))]) (m' := (fl_row f 277 (upd (f 277) 7 (0 : Int32)), l)) rfl rfl (fl_bo rfl) rfl ?_
        exact k1 h1 h2 h3
    · refine fl_Tq.jt rfl (fl_bo rfl) (c2_ge_t h2) rfl ?_
      refine fl_Tq.stp (pc' := 94) (lv' := [some (.inr (.inr (.inl (76, 277)))), some (.inl a), some (.inl (Int32.ofNat j)), some (.inl b), some (.inl c)]) (st' := [.inr (.inr (.inl (76, 277)))]) (m' := (f, l)) rfl rfl (fl_bo rfl) rfl ?_
      refine fl_Tq.cI (c := (0 : Int32)) rfl (by decide +kernel) (fl_bo rfl) ?_
      refine fl_Tq.pfV (k := 7) (m' := (fl_row f 277 (upd (f 277) 7 (0 : Int32)), l)) rfl (fl_bo rfl) rfl (t2_upn rfl) ?_
      refine fl_Tq.stp (pc' := 99) (lv' := [some (.inr (.inr (.inl (76, 277)))), some (.inl a), some (.inl (Int32.ofNat j)), some (.inl b), some (.inl c)]) (st' := [.inr (.inr (.inl (76, 277)))]) (m' := (fl_row f 277 (upd (f 277) 7 (0 : Int32)), l)) rfl rfl (fl_bo rfl) rfl ?_
      exact k2 h1 h2
  · refine fl_Tq.zt rfl (fl_bo rfl) (c1_ne_t h1) rfl ?_
    refine fl_Tq.stp (pc' := 94) (lv' := [some (.inr (.inr (.inl (76, 277)))), some (.inl a), some (.inl (Int32.ofNat j)), some (.inl b), some (.inl c)]) (st' := [.inr (.inr (.inl (76, 277)))]) (m' := (f, l)) rfl rfl (fl_bo rfl) rfl ?_
    refine fl_Tq.cI (c := (0 : Int32)) rfl (by decide +kernel) (fl_bo rfl) ?_
    refine fl_Tq.pfV (k := 7) (m' := (fl_row f 277 (upd (f 277) 7 (0 : Int32)), l)) rfl (fl_bo rfl) rfl (t2_upn rfl) ?_
    refine fl_Tq.stp (pc' := 99) (lv' := [some (.inr (.inr (.inl (76, 277)))), some (.inl a), some (.inl (Int32.ofNat j)), some (.inl b), some (.inl c)]) (st' := [.inr (.inr (.inl (76, 277)))]) (m' := (fl_row f 277 (upd (f 277) 7 (0 : Int32)), l)) rfl rfl (fl_bo rfl) rfl ?_
    exact k3 h1
noncomputable def z317_D_j80_0 (f : t2_F) (a b c z : Int32) (j : Nat) : Int32 := if (f 280 5).toInt = (-a).toInt then (0 : Int32) else (1 : Int32)
theorem z317_D {L : Nat} {xs : Nat → Int32} {f : t2_F} {l : t2_L} {Q : Option fl_V → fl_M → Prop} {a b c z : Int32} {j : Nat}  (k : fl_Tq (pw_P L xs) 317 37 [some (.inr (.inr (.inl (76, 277)))), some (.inl a), some (.inl ((Int32.ofNat j) + (1 : Int32))), some (.inl (b + z)), some (.inl (z317_D_j80_0 f a b c z j))] [] (f, l) Q) : fl_Tq (pw_P L xs) 317 67 [some (.inr (.inr (.inl (76, 277)))), some (.inl a), some (.inl (Int32.ofNat j)), some (.inl b), some (.inl c)] [.inl z, .inl b] (f, l) Q := by
  refine fl_Tq.stp (pc' := 68) (lv' := [some (.inr (.inr (.inl (76, 277)))), some (.inl a), some (.inl (Int32.ofNat j)), some (.inl b), some (.inl c)]) (st' := [.inl (b + z)]) (m' := (f, l)) rfl rfl (fl_bo rfl) rfl ?_
  refine fl_Tq.stp (pc' := 69) (lv' := [some (.inr (.inr (.inl (76, 277)))), some (.inl a), some (.inl (Int32.ofNat j)), some (.inl (b + z)), some (.inl c)]) (st' := []) (m' := (f, l)) rfl rfl (fl_bo rfl) rfl ?_
  refine fl_Tq.stp (pc' := 72) (lv' := [some (.inr (.inr (.inl (76, 277)))), some (.inl a), some (.inl ((Int32.ofNat j) + (1 : Int32))), some (.inl (b + z)), some (.inl c)]) (st' := []) (m' := (f, l)) rfl rfl (fl_bo rfl) rfl ?_
  refine fl_Tq.stp (pc' := 73) (lv' := [some (.inr (.inr (.inl (76, 277)))), some (.inl a), some (.inl ((Int32.ofNat j) + (1 : Int32))), some (.inl (b + z)), some (.inl c)]) (st' := [.inr (.inr (.inl (76, 277)))]) (m' := (f, l)) rfl rfl (fl_bo rfl) rfl ?_
  refine fl_Tq.stp (pc' := 76) (lv' := [some (.inr (.inr (.inl (76, 277)))), some (.inl a), some (.inl ((Int32.ofNat j) + (1 : Int32))), some (.inl (b + z)), some (.inl c)]) (st' := [.inr (.inr (.inl (79, 280)))]) (m' := (f, l)) rfl rfl (fl_bo rfl) rfl ?_
  refine fl_Tq.cI (c := (5 : Int32)) rfl (by decide +kernel) (fl_bo rfl) ?_
  refine fl_Tq.ldV (p := 280) (τ := 79) (n := 29780) (z := (0, 0, 0)) (k := 5) (v := f 280 5) rfl (fl_bo rfl) rfl (by decide +kernel) (by decide) rfl ?_
  refine fl_Tq.stp (pc' := 79) (lv' := [some (.inr (.inr (.inl (76, 277)))), some (.inl a), some (.inl ((Int32.ofNat j) + (1 : Int32))), some (.inl (b + z)), some (.inl c)]) (st' := [.inl a, .inl (f 280 5)]) (m' := (f, l)) rfl rfl (fl_bo rfl) rfl ?_
  refine fl_Tq.stp (pc' := 80) (lv' := [some (.inr (.inr (.inl (76, 277)))), some (.inl a), some (.inl ((Int32.ofNat j) + (1 : Int32))), some (.inl (b + z)), some (.inl c)]) (st' := [.inl (-a), .inl (f 280 5)]) (m' := (f, l)) rfl rfl (fl_bo rfl) rfl ?_
  have hj126 : fl_Tq (pw_P L xs) 317 88 [some (.inr (.inr (.inl (76, 277)))), some (.inl a), some (.inl ((Int32.ofNat j) + (1 : Int32))), some (.inl (b + z)), some (.inl c)] [.inl (z317_D_j80_0 f a b c z j)] (f, l) Q → fl_Tq (pw_P L xs) 317 80 [some (.inr (.inr (.inl (76, 277)))), some (.inl a), some (.inl ((Int32.ofNat j) + (1 : Int32))), some (.inl (b + z)), some (.inl c)] [.inl (-a), .inl (f 280 5)] (f, l) Q := by
    intro hJ
    by_cases h1 : (f 280 5).toInt = (-a).toInt
    · refine fl_Tq.jt rfl (fl_bo rfl) (c2_eq_t h1) rfl ?_
      refine fl_Tq.cI (c := (0 : Int32)) rfl (by decide +kernel) (fl_bo rfl) ?_
      have e0 : (z317_D_j80_0 f a b c z j) = (0 : Int32) := by simp only [z317_D_j80_0, if_pos h1]
      rw [e0] at hJ
      exact hJ
    · refine fl_Tq.jf rfl (fl_bo rfl) (c2_eq_f h1) rfl ?_
      refine fl_Tq.cI (c := (1 : Int32)) rfl (by decide +kernel) (fl_bo rfl) ?_
      refine fl_Tq.stp (pc' := 88) (lv' := [some (.inr (.inr (.inl (76, 277)))), some (.inl a), some (.inl ((Int32.ofNat j) + (1 : Int32))), some (.inl (b + z)), some (.inl c)]) (st' := [.inl (1 : Int32)]) (m' := (f, l)) rfl rfl (fl_bo rfl) rfl ?_
      have e0 : (z317_D_j80_0 f a b c z j) = (1 : Int32) := by simp only [z317_D_j80_0, if_neg h1]
      rw [e0] at hJ
      exact hJ
  refine hj126 ?_
  show fl_Tq _ 317 88 [some (.inr (.inr (.inl (76, 277)))), some (.inl a), some (.inl ((Int32.ofNat j) + (1 : Int32))), some (.inl (b + z)), some (.inl c)] [.inl (z317_D_j80_0 f a b c z j)] (f, l) _
  refine fl_Tq.stp (pc' := 90) (lv' := [some (.inr (.inr (.inl (76, 277)))), some (.inl a), some (.inl ((Int32.ofNat j) + (1 : Int32))), some (.inl (b + z)), some (.inl (z317_D_j80_0 f a b c z j))]) (st' := []) (m' := (f, l)) rfl rfl (fl_bo rfl) rfl ?_
  refine fl_Tq.stp (pc' := 37) (lv' := [some (.inr (.inr (.inl (76, 277)))), some (.inl a), some (.inl ((Int32.ofNat j) + (1 : Int32))), some (.inl (b + z)), some (.inl (z317_D_j80_0 f a b c z j))]) (st' := []) (m' := (f, l)) rfl rfl (fl_bo rfl) rfl ?_
  exact k
noncomputable def z317_E_j104_0 (a b c : Int32) (j : Nat) : Int32 := if c.toInt = 0 then (-1 : Int32) else Int32.ofNat j
theorem z317_E {L : Nat} {xs : Nat → Int32} {f : t2_F} {l : t2_L} {Q : Option fl_V → fl_M → Prop} {a b c : Int32} {j : Nat}  (k : Q (some (.inl (z317_E_j104_0 a b c j))) (f, l)) : fl_Tq (pw_P L xs) 317 102 [some (.inr (.inr (.inl (76, 277)))), some (.inl a), some (.inl (Int32.ofNat j)), some (.inl b), some (.inl c)] [] (f, l) Q := by
  refine fl_Tq.stp (pc' := 104) (lv' := [some (.inr (.inr (.inl (76, 277)))), some (.inl a), some (.inl (Int32.ofNat j)), some (.inl b), some (.inl c)]) (st' := [.inl c]) (m' := (f, l)) rfl rfl (fl_bo rfl) rfl ?_
  have hj127 : fl_Tq (pw_P L xs) 317 112 [some (.inr (.inr (.inl (76, 277)))), some (.inl a), some (.inl (Int32.ofNat j)), some (.inl b), some (.inl c)] [.inl (z317_E_j104_0 a b c j)] (f, l) Q → fl_Tq (pw_P L xs) 317 104 [some (.inr (.inr (.inl (76, 277)))), some (.inl a), some (.inl (Int32.ofNat j)), some (.inl b), some (.inl c)] [.inl c] (f, l) Q := by
    intro hJ
    by_cases h1 : c.toInt = 0
    · refine fl_Tq.zt rfl (fl_bo rfl) (c1_eq_t h1) rfl ?_
      refine fl_Tq.cI (c := (-1 : Int32)) rfl (by decide +kernel) (fl_bo rfl) ?_
      have e0 : (z317_E_j104_0 a b c j) = (-1 : Int32) := by simp only [z317_E_j104_0, if_pos h1]
      rw [e0] at hJ
      exact hJ
    · refine fl_Tq.zf rfl (fl_bo rfl) (c1_eq_f h1) rfl ?_
      refine fl_Tq.stp (pc' := 108) (lv' := [some (.inr (.inr (.inl (76, 277)))), some (.inl a), some (.inl (Int32.ofNat j)), some (.inl b), some (.inl c)]) (st' := [.inl (Int32.ofNat j)]) (m' := (f, l)) rfl rfl (fl_bo rfl) rfl ?_
      refine fl_Tq.stp (pc' := 112) (lv' := [some (.inr (.inr (.inl (76, 277)))), some (.inl a), some (.inl (Int32.ofNat j)), some (.inl b), some (.inl c)]) (st' := [.inl (Int32.ofNat j)]) (m' := (f, l)) rfl rfl (fl_bo rfl) rfl ?_
      have e0 : (z317_E_j104_0 a b c j) = Int32.ofNat j := by simp only [z317_E_j104_0, if_neg h1]
      rw [e0] at hJ
      exact hJ
  refine hj127 ?_
  show fl_Tq _ 317 112 [some (.inr (.inr (.inl (76, 277)))), some (.inl a), some (.inl (Int32.ofNat j)), some (.inl b), some (.inl c)] [.inl (z317_E_j104_0 a b c j)] (f, l) _
  exact fl_Tq.ret rfl rfl rfl k
theorem z318_A {L : Nat} {xs : Nat → Int32} {f : t2_F} {l : t2_L} {Q : Option fl_V → fl_M → Prop} {a b c : Int32}  (k : fl_Tq (pw_P L xs) 318 1 [some (.inr (.inr (.inl (76, 277)))), some (.inl a), some (.inl b), some (.inl c), none, none] [.inr (.inr (.inl (76, 277)))] (f, l) Q) : fl_Tq (pw_P L xs) 318 0 [some (.inr (.inr (.inl (76, 277)))), some (.inl a), some (.inl b), some (.inl c), none, none] [] (f, l) Q := by
  refine fl_Tq.stp (pc' := 1) (lv' := [some (.inr (.inr (.inl (76, 277)))), some (.inl a), some (.inl b), some (.inl c), none, none]) (st' := [.inr (.inr (.inl (76, 277)))]) (m' := (f, l)) rfl rfl (fl_bo rfl) rfl ?_
  exact k
theorem z318_B {L : Nat} {xs : Nat → Int32} {f : t2_F} {l : t2_L} {Q : Option fl_V → fl_M → Prop} {a b c : Int32} {A : Nat} (hA : a.toInt = (A : Int)) (hA1 : A < 30) (k : fl_Tq (pw_P L xs) 318 16 [some (.inr (.inr (.inl (76, 277)))), some (.inl a), some (.inl b), some (.inl c), none, none] [.inl c, .inr (.inr (.inl (76, 277)))] (fl_row f 280 (upd (f 280) (34 + A) b), l) Q) : fl_Tq (pw_P L xs) 318 4 [some (.inr (.inr (.inl (76, 277)))), some (.inl a), some (.inl b), some (.inl c), none, none] [] (f, l) Q := by
  refine fl_Tq.stp (pc' := 5) (lv' := [some (.inr (.inr (.inl (76, 277)))), some (.inl a), some (.inl b), some (.inl c), none, none]) (st' := [.inr (.inr (.inl (76, 277)))]) (m' := (f, l)) rfl rfl (fl_bo rfl) rfl ?_
  refine fl_Tq.stp (pc' := 8) (lv' := [some (.inr (.inr (.inl (76, 277)))), some (.inl a), some (.inl b), some (.inl c), none, none]) (st' := [.inr (.inr (.inl (79, 280)))]) (m' := (f, l)) rfl rfl (fl_bo rfl) rfl ?_
  refine fl_Tq.cB (c := (34 : Int32)) rfl (by decide +kernel) (fl_bo rfl) ?_
  refine fl_Tq.stp (pc' := 11) (lv' := [some (.inr (.inr (.inl (76, 277)))), some (.inl a), some (.inl b), some (.inl c), none, none]) (st' := [.inl a, .inl (34 : Int32), .inr (.inr (.inl (79, 280)))]) (m' := (f, l)) rfl rfl (fl_bo rfl) rfl ?_
  refine fl_Tq.stp (pc' := 12) (lv' := [some (.inr (.inr (.inl (76, 277)))), some (.inl a), some (.inl b), some (.inl c), none, none]) (st' := [.inl ((34 : Int32) + a), .inr (.inr (.inl (79, 280)))]) (m' := (f, l)) rfl rfl (fl_bo rfl) rfl ?_
  refine fl_Tq.stp (pc' := 13) (lv' := [some (.inr (.inr (.inl (76, 277)))), some (.inl a), some (.inl b), some (.inl c), none, none]) (st' := [.inl b, .inl ((34 : Int32) + a), .inr (.inr (.inl (79, 280)))]) (m' := (f, l)) rfl rfl (fl_bo rfl) rfl ?_
  refine fl_Tq.svV (p := 280) (τ := 79) (n := 29780) (z := (0, 0, 0)) (k := 34 + A) (m' := (fl_row f 280 (upd (f 280) (34 + A) b), l)) rfl (fl_bo rfl) rfl (t2_ia (by decide +kernel) hA (by omega)) (by omega) (t2_upn rfl) ?_
  refine fl_Tq.stp (pc' := 15) (lv' := [some (.inr (.inr (.inl (76, 277)))), some (.inl a), some (.inl b), some (.inl c), none, none]) (st' := [.inr (.inr (.inl (76, 277)))]) (m' := (fl_row f 280 (upd (f 280) (34 + A) b), l)) rfl rfl (fl_bo rfl) rfl ?_
  refine fl_Tq.stp (pc' := 16) (lv' := [some (.inr (.inr (.inl (76, 277)))), some (.inl a), some (.inl b), some (.inl c), none, none]) (st' := [.inl c, .inr (.inr (.inl (76, 277)))]) (m' := (fl_row f 280 (upd (f 280) (34 + A) b), l)) rfl rfl (fl_bo rfl) rfl ?_
  exact k
theorem z318_C {L : Nat} {xs : Nat → Int32} {f : t2_F} {l : t2_L} {Q : Option fl_V → fl_M → Prop} {a b c z : Int32}  (k : fl_Tq (pw_P L xs) 318 22 [some (.inr (.inr (.inl (76, 277)))), some (.inl a), some (.inl b), some (.inl c), some (.inl z), none] [.inr (.inr (.inl (76, 277)))] (f, l) Q) : fl_Tq (pw_P L xs) 318 19 [some (.inr (.inr (.inl (76, 277)))), some (.inl a), some (.inl b), some (.inl c), none, none] [.inl z] (f, l) Q := by
  refine fl_Tq.stp (pc' := 21) (lv' := [some (.inr (.inr (.inl (76, 277)))), some (.inl a), some (.inl b), some (.inl c), some (.inl z), none]) (st' := []) (m' := (f, l)) rfl rfl (fl_bo rfl) rfl ?_
  refine fl_Tq.stp (pc' := 22) (lv' := [some (.inr (.inr (.inl (76, 277)))), some (.inl a), some (.inl b), some (.inl c), some (.inl z), none]) (st' := [.inr (.inr (.inl (76, 277)))]) (m' := (f, l)) rfl rfl (fl_bo rfl) rfl ?_
  exact k
theorem z318_D {L : Nat} {xs : Nat → Int32} {f : t2_F} {l : t2_L} {Q : Option fl_V → fl_M → Prop} {a b c y z : Int32}  (k : fl_Tq (pw_P L xs) 318 28 [some (.inr (.inr (.inl (76, 277)))), some (.inl a), some (.inl b), some (.inl c), some (.inl z), some (.inl y)] [.inr (.inr (.inl (76, 277)))] (f, l) Q) : fl_Tq (pw_P L xs) 318 25 [some (.inr (.inr (.inl (76, 277)))), some (.inl a), some (.inl b), some (.inl c), some (.inl z), none] [.inl y] (f, l) Q := by
  refine fl_Tq.stp (pc' := 27) (lv' := [some (.inr (.inr (.inl (76, 277)))), some (.inl a), some (.inl b), some (.inl c), some (.inl z), some (.inl y)]) (st' := []) (m' := (f, l)) rfl rfl (fl_bo rfl) rfl ?_
  refine fl_Tq.stp (pc' := 28) (lv' := [some (.inr (.inr (.inl (76, 277)))), some (.inl a), some (.inl b), some (.inl c), some (.inl z), some (.inl y)]) (st' := [.inr (.inr (.inl (76, 277)))]) (m' := (f, l)) rfl rfl (fl_bo rfl) rfl ?_
  exact k
theorem z318_E {L : Nat} {xs : Nat → Int32} {f : t2_F} {l : t2_L} {Q : Option fl_V → fl_M → Prop} {a b c y z : Int32}  (k : Q (some (.inl y)) (f, l)) : fl_Tq (pw_P L xs) 318 31 [some (.inr (.inr (.inl (76, 277)))), some (.inl a), some (.inl b), some (.inl c), some (.inl z), some (.inl y)] [] (f, l) Q := by
  refine fl_Tq.stp (pc' := 33) (lv' := [some (.inr (.inr (.inl (76, 277)))), some (.inl a), some (.inl b), some (.inl c), some (.inl z), some (.inl y)]) (st' := [.inl y]) (m' := (f, l)) rfl rfl (fl_bo rfl) rfl ?_
  exact fl_Tq.ret rfl rfl rfl k
theorem z319_A {L : Nat} {xs : Nat → Int32} {f : t2_F} {l : t2_L} {Q : Option fl_V → fl_M → Prop} {a b : Int32}  (k : fl_Tq (pw_P L xs) 319 4 [some (.inr (.inr (.inl (76, 277)))), some (.inl a), some (.inl b), none] [.inl (60 : Int32), .inl a, .inr (.inr (.inl (76, 277)))] (f, l) Q) : fl_Tq (pw_P L xs) 319 0 [some (.inr (.inr (.inl (76, 277)))), some (.inl a), some (.inl b), none] [] (f, l) Q := by
  refine fl_Tq.stp (pc' := 1) (lv' := [some (.inr (.inr (.inl (76, 277)))), some (.inl a), some (.inl b), none]) (st' := [.inr (.inr (.inl (76, 277)))]) (m' := (f, l)) rfl rfl (fl_bo rfl) rfl ?_
  refine fl_Tq.stp (pc' := 2) (lv' := [some (.inr (.inr (.inl (76, 277)))), some (.inl a), some (.inl b), none]) (st' := [.inl a, .inr (.inr (.inl (76, 277)))]) (m' := (f, l)) rfl rfl (fl_bo rfl) rfl ?_
  refine fl_Tq.cB (c := (60 : Int32)) rfl (by decide +kernel) (fl_bo rfl) ?_
  exact k
theorem z319_B {L : Nat} {xs : Nat → Int32} {f : t2_F} {l : t2_L} {Q : Option fl_V → fl_M → Prop} {a b z : Int32}  (k : (z.toInt = 0) → Q (some (.inl (-1 : Int32))) (f, l)) (k1 : (¬ (z.toInt = 0)) → ((r_isIn_v b (0 : Int32) (1000 : Int32)).toInt = 0) → Q (some (.inl (-1 : Int32))) (f, l)) (k2 : (¬ (z.toInt = 0)) → (¬ ((r_isIn_v b (0 : Int32) (1000 : Int32)).toInt = 0)) → ((f 280 2).toInt = 0) → Q (some (.inl (-1 : Int32))) (f, l)) (k3 : (¬ (z.toInt = 0)) → (¬ ((r_isIn_v b (0 : Int32) (1000 : Int32)).toInt = 0)) → (¬ ((f 280 2).toInt = 0)) → fl_Tq (pw_P L xs) 319 35 [some (.inr (.inr (.inl (76, 277)))), some (.inl a), some (.inl b), some (.inl (99 : Int32))] [] (f, l) Q) : fl_Tq (pw_P L xs) 319 7 [some (.inr (.inr (.inl (76, 277)))), some (.inl a), some (.inl b), none] [.inl z] (f, l) Q := by
  by_cases h1 : z.toInt = 0
  · refine fl_Tq.zt rfl (fl_bo rfl) (c1_eq_t h1) rfl ?_
    refine fl_Tq.cI (c := (-1 : Int32)) rfl (by decide +kernel) (fl_bo rfl) ?_
    exact fl_Tq.ret rfl rfl rfl (k h1)
  · refine fl_Tq.zf rfl (fl_bo rfl) (c1_eq_f h1) rfl ?_
    refine fl_Tq.stp (pc' := 11) (lv' := [some (.inr (.inr (.inl (76, 277)))), some (.inl a), some (.inl b), none]) (st' := [.inl b]) (m' := (f, l)) rfl rfl (fl_bo rfl) rfl ?_
    refine fl_Tq.cI (c := (0 : Int32)) rfl (by decide +kernel) (fl_bo rfl) ?_
    refine fl_Tq.cS (c := (1000 : Int32)) rfl (by decide +kernel) (fl_bo rfl) ?_
    refine fl_Tq.cal rfl rfl (fl_bo rfl) rfl ?_
    refine r_isIn_q  ?_
    show fl_Tq _ 319 18 [some (.inr (.inr (.inl (76, 277)))), some (.inl a), some (.inl b), none] [.inl (r_isIn_v b (0 : Int32) (1000 : Int32))] (f, l) _
    by_cases h2 : (r_isIn_v b (0 : Int32) (1000 : Int32)).toInt = 0
    · refine fl_Tq.zt rfl (fl_bo rfl) (c1_eq_t h2) rfl ?_
      refine fl_Tq.cI (c := (-1 : Int32)) rfl (by decide +kernel) (fl_bo rfl) ?_
      exact fl_Tq.ret rfl rfl rfl (k1 h1 h2)
    · refine fl_Tq.zf rfl (fl_bo rfl) (c1_eq_f h2) rfl ?_
      refine fl_Tq.stp (pc' := 22) (lv' := [some (.inr (.inr (.inl (76, 277)))), some (.inl a), some (.inl b), none]) (st' := [.inr (.inr (.inl (76, 277)))]) (m' := (f, l)) rfl rfl (fl_bo rfl) rfl ?_
      refine fl_Tq.stp (pc' := 25) (lv' := [some (.inr (.inr (.inl (76, 277)))), some (.inl a), some (.inl b), none]) (st' := [.inr (.inr (.inl (79, 280)))]) (m' := (f, l)) rfl rfl (fl_bo rfl) rfl ?_
      refine fl_Tq.cI (c := (2 : Int32)) rfl (by decide +kernel) (fl_bo rfl) ?_
      refine fl_Tq.ldV (p := 280) (τ := 79) (n := 29780) (z := (0, 0, 0)) (k := 2) (v := f 280 2) rfl (fl_bo rfl) rfl (by decide +kernel) (by decide) rfl ?_
      by_cases h3 : (f 280 2).toInt = 0
      · refine fl_Tq.zf rfl (fl_bo rfl) (c1_ne_f h3) rfl ?_
        refine fl_Tq.cI (c := (-1 : Int32)) rfl (by decide +kernel) (fl_bo rfl) ?_
        exact fl_Tq.ret rfl rfl rfl (k2 h1 h2 h3)
      · refine fl_Tq.zt rfl (fl_bo rfl) (c1_ne_t h3) rfl ?_
        refine fl_Tq.cB (c := (99 : Int32)) rfl (by decide +kernel) (fl_bo rfl) ?_
        refine fl_Tq.stp (pc' := 35) (lv' := [some (.inr (.inr (.inl (76, 277)))), some (.inl a), some (.inl b), some (.inl (99 : Int32))]) (st' := []) (m' := (f, l)) rfl rfl (fl_bo rfl) rfl ?_
        exact k3 h1 h2 h3
theorem z319_C {L : Nat} {xs : Nat → Int32} {f : t2_F} {l : t2_L} {Q : Option fl_V → fl_M → Prop} {a b c : Int32}  (k : (c.toInt < 0) → Q (some (.inl (-1 : Int32))) (f, l)) (k1 : (¬ (c.toInt < 0)) → fl_Tq (pw_P L xs) 319 44 [some (.inr (.inr (.inl (76, 277)))), some (.inl a), some (.inl b), some (.inl c)] [.inl a, .inl c, .inl (14 : Int32), .inr (.inr (.inl (76, 277)))] (f, l) Q) : fl_Tq (pw_P L xs) 319 35 [some (.inr (.inr (.inl (76, 277)))), some (.inl a), some (.inl b), some (.inl c)] [] (f, l) Q := by
  refine fl_Tq.stp (pc' := 36) (lv' := [some (.inr (.inr (.inl (76, 277)))), some (.inl a), some (.inl b), some (.inl c)]) (st' := [.inl c]) (m' := (f, l)) rfl rfl (fl_bo rfl) rfl ?_
  by_cases h1 : c.toInt < 0
  · refine fl_Tq.zt rfl (fl_bo rfl) (c1_lt_t h1) rfl ?_
    refine fl_Tq.cI (c := (-1 : Int32)) rfl (by decide +kernel) (fl_bo rfl) ?_
    exact fl_Tq.ret rfl rfl rfl (k h1)
  · refine fl_Tq.zf rfl (fl_bo rfl) (c1_lt_f h1) rfl ?_
    refine fl_Tq.stp (pc' := 40) (lv' := [some (.inr (.inr (.inl (76, 277)))), some (.inl a), some (.inl b), some (.inl c)]) (st' := [.inr (.inr (.inl (76, 277)))]) (m' := (f, l)) rfl rfl (fl_bo rfl) rfl ?_
    refine fl_Tq.cB (c := (14 : Int32)) rfl (by decide +kernel) (fl_bo rfl) ?_
    refine fl_Tq.stp (pc' := 43) (lv' := [some (.inr (.inr (.inl (76, 277)))), some (.inl a), some (.inl b), some (.inl c)]) (st' := [.inl c, .inl (14 : Int32), .inr (.inr (.inl (76, 277)))]) (m' := (f, l)) rfl rfl (fl_bo rfl) rfl ?_
    refine fl_Tq.stp (pc' := 44) (lv' := [some (.inr (.inr (.inl (76, 277)))), some (.inl a), some (.inl b), some (.inl c)]) (st' := [.inl a, .inl c, .inl (14 : Int32), .inr (.inr (.inl (76, 277)))]) (m' := (f, l)) rfl rfl (fl_bo rfl) rfl ?_
    exact k1 h1
theorem z319_D {L : Nat} {xs : Nat → Int32} {f : t2_F} {l : t2_L} {Q : Option fl_V → fl_M → Prop} {a b c z : Int32}  (k : (b.toInt < z.toInt) → fl_Tq (pw_P L xs) 319 35 [some (.inr (.inr (.inl (76, 277)))), some (.inl a), some (.inl b), some (.inl (c + (-1 : Int32)))] [] (f, l) Q) (k1 : (¬ (b.toInt < z.toInt)) → Q (some (.inl c)) (f, l)) : fl_Tq (pw_P L xs) 319 47 [some (.inr (.inr (.inl (76, 277)))), some (.inl a), some (.inl b), some (.inl c)] [.inl z] (f, l) Q := by
  refine fl_Tq.stp (pc' := 48) (lv' := [some (.inr (.inr (.inl (76, 277)))), some (.inl a), some (.inl b), some (.inl c)]) (st' := [.inl b, .inl z]) (m' := (f, l)) rfl rfl (fl_bo rfl) rfl ?_
  by_cases h1 : b.toInt < z.toInt
  · refine fl_Tq.jt rfl (fl_bo rfl) (c2_gt_t h1) rfl ?_
    refine fl_Tq.stp (pc' := 56) (lv' := [some (.inr (.inr (.inl (76, 277)))), some (.inl a), some (.inl b), some (.inl (c + (-1 : Int32)))]) (st' := []) (m' := (f, l)) rfl rfl (fl_bo rfl) rfl ?_
    refine fl_Tq.stp (pc' := 35) (lv' := [some (.inr (.inr (.inl (76, 277)))), some (.inl a), some (.inl b), some (.inl (c + (-1 : Int32)))]) (st' := []) (m' := (f, l)) rfl rfl (fl_bo rfl) rfl ?_
    exact k h1
  · refine fl_Tq.jf rfl (fl_bo rfl) (c2_gt_f h1) rfl ?_
    refine fl_Tq.stp (pc' := 52) (lv' := [some (.inr (.inr (.inl (76, 277)))), some (.inl a), some (.inl b), some (.inl c)]) (st' := [.inl c]) (m' := (f, l)) rfl rfl (fl_bo rfl) rfl ?_
    exact fl_Tq.ret rfl rfl rfl (k1 h1)
theorem z321_A {L : Nat} {xs : Nat → Int32} {f : t2_F} {l : t2_L} {Q : Option fl_V → fl_M → Prop} {a : Int32}  (k : ((r_isIn_v a (0 : Int32) (1 : Int32)).toInt = 0) → Q (some (.inl (-1 : Int32))) (f, l)) (k1 : (¬ ((r_isIn_v a (0 : Int32) (1 : Int32)).toInt = 0)) → fl_Tq (pw_P L xs) 321 12 [some (.inr (.inr (.inl (76, 277)))), some (.inl a), none, none, none] [.inr (.inr (.inl (76, 277)))] (f, l) Q) : fl_Tq (pw_P L xs) 321 0 [some (.inr (.inr (.inl (76, 277)))), some (.inl a), none, none, none] [] (f, l) Q := by
  refine fl_Tq.stp (pc' := 1) (lv' := [some (.inr (.inr (.inl (76, 277)))), some (.inl a), none, none, none]) (st' := [.inl a]) (m' := (f, l)) rfl rfl (fl_bo rfl) rfl ?_
  refine fl_Tq.cI (c := (0 : Int32)) rfl (by decide +kernel) (fl_bo rfl) ?_
  refine fl_Tq.cI (c := (1 : Int32)) rfl (by decide +kernel) (fl_bo rfl) ?_
  refine fl_Tq.cal rfl rfl (fl_bo rfl) rfl ?_
  refine r_isIn_q  ?_
  show fl_Tq _ 321 6 [some (.inr (.inr (.inl (76, 277)))), some (.inl a), none, none, none] [.inl (r_isIn_v a (0 : Int32) (1 : Int32))] (f, l) _
  by_cases h1 : (r_isIn_v a (0 : Int32) (1 : Int32)).toInt = 0
  · refine fl_Tq.zf rfl (fl_bo rfl) (c1_ne_f h1) rfl ?_
    refine fl_Tq.cI (c := (-1 : Int32)) rfl (by decide +kernel) (fl_bo rfl) ?_
    exact fl_Tq.ret rfl rfl rfl (k h1)
  · refine fl_Tq.zt rfl (fl_bo rfl) (c1_ne_t h1) rfl ?_
    refine fl_Tq.stp (pc' := 12) (lv' := [some (.inr (.inr (.inl (76, 277)))), some (.inl a), none, none, none]) (st' := [.inr (.inr (.inl (76, 277)))]) (m' := (f, l)) rfl rfl (fl_bo rfl) rfl ?_
    exact k1 h1
theorem z321_B {L : Nat} {xs : Nat → Int32} {f : t2_F} {l : t2_L} {Q : Option fl_V → fl_M → Prop} {a : Int32}  (k : fl_Tq (pw_P L xs) 321 21 [some (.inr (.inr (.inl (76, 277)))), some (.inl a), some (.inl (0 : Int32)), some (.inl (0 : Int32)), none] [.inl a, .inr (.inr (.inl (76, 277)))] (f, l) Q) : fl_Tq (pw_P L xs) 321 15 [some (.inr (.inr (.inl (76, 277)))), some (.inl a), none, none, none] [] (f, l) Q := by
  refine fl_Tq.cI (c := (0 : Int32)) rfl (by decide +kernel) (fl_bo rfl) ?_
  refine fl_Tq.stp (pc' := 17) (lv' := [some (.inr (.inr (.inl (76, 277)))), some (.inl a), some (.inl (0 : Int32)), none, none]) (st' := []) (m' := (f, l)) rfl rfl (fl_bo rfl) rfl ?_
  refine fl_Tq.cI (c := (0 : Int32)) rfl (by decide +kernel) (fl_bo rfl) ?_
  refine fl_Tq.stp (pc' := 19) (lv' := [some (.inr (.inr (.inl (76, 277)))), some (.inl a), some (.inl (0 : Int32)), some (.inl (0 : Int32)), none]) (st' := []) (m' := (f, l)) rfl rfl (fl_bo rfl) rfl ?_
  refine fl_Tq.stp (pc' := 20) (lv' := [some (.inr (.inr (.inl (76, 277)))), some (.inl a), some (.inl (0 : Int32)), some (.inl (0 : Int32)), none]) (st' := [.inr (.inr (.inl (76, 277)))]) (m' := (f, l)) rfl rfl (fl_bo rfl) rfl ?_
  refine fl_Tq.stp (pc' := 21) (lv' := [some (.inr (.inr (.inl (76, 277)))), some (.inl a), some (.inl (0 : Int32)), some (.inl (0 : Int32)), none]) (st' := [.inl a, .inr (.inr (.inl (76, 277)))]) (m' := (f, l)) rfl rfl (fl_bo rfl) rfl ?_
  exact k
theorem z321_C {L : Nat} {xs : Nat → Int32} {f : t2_F} {l : t2_L} {Q : Option fl_V → fl_M → Prop} {a b z : Int32} {j : Nat}  (k : fl_Tq (pw_P L xs) 321 26 [some (.inr (.inr (.inl (76, 277)))), some (.inl a), some (.inl (Int32.ofNat j)), some (.inl b), some (.inl z)] [] (f, l) Q) : fl_Tq (pw_P L xs) 321 24 [some (.inr (.inr (.inl (76, 277)))), some (.inl a), some (.inl (Int32.ofNat j)), some (.inl b), none] [.inl z] (f, l) Q := by
  refine fl_Tq.stp (pc' := 26) (lv' := [some (.inr (.inr (.inl (76, 277)))), some (.inl a), some (.inl (Int32.ofNat j)), some (.inl b), some (.inl z)]) (st' := []) (m' := (f, l)) rfl rfl (fl_bo rfl) rfl ?_
  exact k
theorem z321_D {L : Nat} {xs : Nat → Int32} {f : t2_F} {l : t2_L} {Q : Option fl_V → fl_M → Prop} {a b c : Int32} {j : Nat}  (k : (c.toInt = 0) → ((Int32.ofNat j).toInt < (2000 : Int32).toInt) → ((f 280 7).toInt < (9999 : Int32).toInt) → fl_Tq (pw_P L xs) 321 53 [some (.inr (.inr (.inl (76, 277)))), some (.inl a), some (.inl (Int32.ofNat j)), some (.inl b), some (.inl c)] [.inr (.inr (.inl (76, 277))), .inl b] (f, l) Q) (k1 : (c.toInt = 0) → ((Int32.ofNat j).toInt < (2000 : Int32).toInt) → (¬ ((f 280 7).toInt < (9999 : Int32).toInt)) → fl_Tq (pw_P L xs) 321 72 [some (.inr (.inr (.inl (76, 277)))), some (.inl a), some (.inl (Int32.ofNat j)), some (.inl b), some (.inl c)] [.inr (.inr (.inl (76, 277)))] (f, l) Q) (k2 : (c.toInt = 0) → (¬ ((Int32.ofNat j).toInt < (2000 : Int32).toInt)) → fl_Tq (pw_P L xs) 321 72 [some (.inr (.inr (.inl (76, 277)))), some (.inl a), some (.inl (Int32.ofNat j)), some (.inl b), some (.inl c)] [.inr (.inr (.inl (76, 277)))] (f, l) Q) (k3 : (¬ (c.toInt = 0)) → fl_Tq (pw_P L xs) 321 72 [some (.inr (.inr (.inl (76, 277)))), some (.inl a), some (.inl (Int32.ofNat j)), some (.inl b), some (.inl c)] [.inr (.inr (.inl (76, 277)))] (f, l) Q) : fl_Tq (pw_P L xs) 321 26 [some (.inr (.inr (.inl (76, 277)))), some (.inl a), some (.inl (Int32.ofNat j)), some (.inl b), some (.inl c)] [] (f, l) Q := by
  refine fl_Tq.stp (pc' := 28) (lv' := [some (.inr (.inr (.inl (76, 277)))), some (.inl a), some (.inl (Int32.ofNat j)), some (.inl b), some (.inl c)]) (st' := [.inl c]) (m' := (f, l)) rfl rfl (fl_bo rfl) rfl ?_
  by_cases h1 : c.toInt = 0
  · refine fl_Tq.zf rfl (fl_bo rfl) (c1_ne_f h1) rfl ?_
    refine fl_Tq.stp (pc' := 32) (lv' := [some (.inr (.inr (.inl (76, 277)))), some (.inl a), some (.inl (Int32.ofNat j)), some (.inl b), some (.inl c)]) (st' := [.inl (Int32.ofNat j)]) (m' := (f, l)) rfl rfl (fl_bo rfl) rfl ?_
    refine fl_Tq.cS (c := (2000 : Int32)) rfl (by decide +kernel) (fl_bo rfl) ?_
    by_cases h2 : (Int32.ofNat j).toInt < (2000 : Int32).toInt
    · refine fl_Tq.jf rfl (fl_bo rfl) (c2_ge_f h2) rfl ?_
      refine fl_Tq.stp (pc' := 39) (lv' := [some (.inr (.inr (.inl (76, 277)))), some (.inl a), some (.inl (Int32.ofNat j)), some (.inl b), some (.inl c)]) (st' := [.inr (.inr (.inl (76, 277)))]) (m' := (f, l)) rfl rfl (fl_bo rfl) rfl ?_
      refine fl_Tq.stp (pc' := 42) (lv' := [some (.inr (.inr (.inl (76, 277)))), some (.inl a), some (.inl (Int32.ofNat j)), some (.inl b), some (.inl c)]) (st' := [.inr (.inr (.inl (79, 280)))]) (m' := (f, l)) rfl rfl (fl_bo rfl) rfl ?_
      refine fl_Tq.cB (c := (7 : Int32)) rfl (by decide +kernel) (fl_bo rfl) ?_
      refine fl_Tq.ldV (p := 280) (τ := 79) (n := 29780) (z := (0, 0, 0)) (k := 7) (v := f 280 7) rfl (fl_bo rfl) rfl (by decide +kernel) (by decide) rfl ?_
      refine fl_Tq.cS (c := (9999 : Int32)) rfl (by decide +kernel) (fl_bo rfl) ?_
      by_cases h3 : (f 280 7).toInt < (9999 : Int32).toInt
      · refine fl_Tq.jf rfl (fl_bo rfl) (c2_ge_f h3) rfl ?_
        refine fl_Tq.stp (pc' := 52) (lv' := [some (.inr (.inr (.inl (76, 277)))), some (.inl a), some (.inl (Int32.ofNat j)), some (.inl b), some (.inl c)]) (st' := [.inl b]) (m' := (f, l)) rfl rfl (fl_bo rfl) rfl ?_
        refine fl_Tq.stp (pc' := 53) (lv' := [some (.inr (.inr (.inl (76, 277)))), some (.inl a), some (.inl (Int32.ofNat j)), some (.inl b), some (.inl c)]) (st' := [.inr (.inr (.inl (76, 277))), .inl b]) (m' := (f, l)) rfl rfl (fl_bo rfl) rfl ?_
        exact k h1 h2 h3
      · refine fl_Tq.jt rfl (fl_bo rfl) (c2_ge_t h3) rfl ?_
        refine fl_Tq.stp (pc' := 72) (lv' := [some (.inr (.inr (.inl (76, 277)))), some (.inl a), some (.inl (Int32.ofNat j)), some (.inl b), some (.inl c)]) (st' := [.inr (.inr (.inl (76, 277)))]) (m' := (f, l)) rfl rfl (fl_bo rfl) rfl ?_
        exact k1 h1 h2 h3
    · refine fl_Tq.jt rfl (fl_bo rfl) (c2_ge_t h2) rfl ?_
      refine fl_Tq.stp (pc' := 72) (lv' := [some (.inr (.inr (.inl (76, 277)))), some (.inl a), some (.inl (Int32.ofNat j)), some (.inl b), some (.inl c)]) (st' := [.inr (.inr (.inl (76, 277)))]) (m' := (f, l)) rfl rfl (fl_bo rfl) rfl ?_
      exact k2 h1 h2
  · refine fl_Tq.zt rfl (fl_bo rfl) (c1_ne_t h1) rfl ?_
    refine fl_Tq.stp (pc' := 72) (lv' := [some (.inr (.inr (.inl (76, 277)))), some (.inl a), some (.inl (Int32.ofNat j)), some (.inl b), some (.inl c)]) (st' := [.inr (.inr (.inl (76, 277)))]) (m' := (f, l)) rfl rfl (fl_bo rfl) rfl ?_
    exact k3 h1
theorem z321_E {L : Nat} {xs : Nat → Int32} {f : t2_F} {l : t2_L} {Q : Option fl_V → fl_M → Prop} {a b c z : Int32} {j : Nat}  (k : fl_Tq (pw_P L xs) 321 63 [some (.inr (.inr (.inl (76, 277)))), some (.inl a), some (.inl ((Int32.ofNat j) + (1 : Int32))), some (.inl (b + z)), some (.inl c)] [.inl a, .inr (.inr (.inl (76, 277)))] (f, l) Q) : fl_Tq (pw_P L xs) 321 56 [some (.inr (.inr (.inl (76, 277)))), some (.inl a), some (.inl (Int32.ofNat j)), some (.inl b), some (.inl c)] [.inl z, .inl b] (f, l) Q := by
  refine fl_Tq.stp (pc' := 57) (lv' := [some (.inr (.inr (.inl (76, 277)))), some (.inl a), some (.inl (Int32.ofNat j)), some (.inl b), some (.inl c)]) (st' := [.inl (b + z)]) (m' := (f, l)) rfl rfl (fl_bo rfl) rfl ?_
  refine fl_Tq.stp (pc' := 58) (lv' := [some (.inr (.inr (.inl (76, 277)))), some (.inl a), some (.inl (Int32.ofNat j)), some (.inl (b + z)), some (.inl c)]) (st' := []) (m' := (f, l)) rfl rfl (fl_bo rfl) rfl ?_
  refine fl_Tq.stp (pc' := 61) (lv' := [some (.inr (.inr (.inl (76, 277)))), some (.inl a), some (.inl ((Int32.ofNat j) + (1 : Int32))), some (.inl (b + z)), some (.inl c)]) (st' := []) (m' := (f, l)) rfl rfl (fl_bo rfl) rfl ?_
  refine fl_Tq.stp (pc' := 62) (lv' := [some (.inr (.inr (.inl (76, 277)))), some (.inl a), some (.inl ((Int32.ofNat j) + (1 : Int32))), some (.inl (b + z)), some (.inl c)]) (st' := [.inr (.inr (.inl (76, 277)))]) (m' := (f, l)) rfl rfl (fl_bo rfl) rfl ?_
  refine fl_Tq.stp (pc' := 63) (lv' := [some (.inr (.inr (.inl (76, 277)))), some (.inl a), some (.inl ((Int32.ofNat j) + (1 : Int32))), some (.inl (b + z)), some (.inl c)]) (st' := [.inl a, .inr (.inr (.inl (76, 277)))]) (m' := (f, l)) rfl rfl (fl_bo rfl) rfl ?_
  exact k
theorem z321_G {L : Nat} {xs : Nat → Int32} {f : t2_F} {l : t2_L} {Q : Option fl_V → fl_M → Prop} {a b c z : Int32} {j : Nat}  (k : fl_Tq (pw_P L xs) 321 26 [some (.inr (.inr (.inl (76, 277)))), some (.inl a), some (.inl (Int32.ofNat j)), some (.inl b), some (.inl z)] [] (f, l) Q) : fl_Tq (pw_P L xs) 321 66 [some (.inr (.inr (.inl (76, 277)))), some (.inl a), some (.inl (Int32.ofNat j)), some (.inl b), some (.inl c)] [.inl z] (f, l) Q := by
  refine fl_Tq.stp (pc' := 68) (lv' := [some (.inr (.inr (.inl (76, 277)))), some (.inl a), some (.inl (Int32.ofNat j)), some (.inl b), some (.inl z)]) (st' := []) (m' := (f, l)) rfl rfl (fl_bo rfl) rfl ?_
  refine fl_Tq.stp (pc' := 26) (lv' := [some (.inr (.inr (.inl (76, 277)))), some (.inl a), some (.inl (Int32.ofNat j)), some (.inl b), some (.inl z)]) (st' := []) (m' := (f, l)) rfl rfl (fl_bo rfl) rfl ?_
  exact k
noncomputable def z321_F_j77_0 (a b c : Int32) (j : Nat) : Int32 := if c.toInt = 0 then (-1 : Int32) else Int32.ofNat j
theorem z321_F {L : Nat} {xs : Nat → Int32} {f : t2_F} {l : t2_L} {Q : Option fl_V → fl_M → Prop} {a b c : Int32} {j : Nat}  (k : Q (some (.inl (z321_F_j77_0 a b c j))) (f, l)) : fl_Tq (pw_P L xs) 321 75 [some (.inr (.inr (.inl (76, 277)))), some (.inl a), some (.inl (Int32.ofNat j)), some (.inl b), some (.inl c)] [] (f, l) Q := by
  refine fl_Tq.stp (pc' := 77) (lv' := [some (.inr (.inr (.inl (76, 277)))), some (.inl a), some (.inl (Int32.ofNat j)), some (.inl b), some (.inl c)]) (st' := [.inl c]) (m' := (f, l)) rfl rfl (fl_bo rfl) rfl ?_
  have hj128 : fl_Tq (pw_P L xs) 321 85 [some (.inr (.inr (.inl (76, 277)))), some (.inl a), some (.inl (Int32.ofNat j)), some (.inl b), some (.inl c)] [.inl (z321_F_j77_0 a b c j)] (f, l) Q → fl_Tq (pw_P L xs) 321 77 [some (.inr (.inr (.inl (76, 277)))), some (.inl a), some (.inl (Int32.ofNat j)), some (.inl b), some (.inl c)] [.inl c] (f, l) Q := by
    intro hJ
    by_cases h1 : c.toInt = 0
    · refine fl_Tq.zt rfl (fl_bo rfl) (c1_eq_t h1) rfl ?_
      refine fl_Tq.cI (c := (-1 : Int32)) rfl (by decide +kernel) (fl_bo rfl) ?_
      have e0 : (z321_F_j77_0 a b c j) = (-1 : Int32) := by simp only [z321_F_j77_0, if_pos h1]
      rw [e0] at hJ
      exact hJ
    · refine fl_Tq.zf rfl (fl_bo rfl) (c1_eq_f h1) rfl ?_
      refine fl_Tq.stp (pc' := 81) (lv' := [some (.inr (.inr (.inl (76, 277)))), some (.inl a), some (.inl (Int32.ofNat j)), some (.inl b), some (.inl c)]) (st' := [.inl (Int32.ofNat j)]) (m' := (f, l)) rfl rfl (fl_bo rfl) rfl ?_
      refine fl_Tq.stp (pc' := 85) (lv' := [some (.inr (.inr (.inl (76, 277)))), some (.inl a), some (.inl (Int32.ofNat j)), some (.inl b), some (.inl c)]) (st' := [.inl (Int32.ofNat j)]) (m' := (f, l)) rfl rfl (fl_bo rfl) rfl ?_
      have e0 : (z321_F_j77_0 a b c j) = Int32.ofNat j := by simp only [z321_F_j77_0, if_neg h1]
      rw [e0] at hJ
      exact hJ
  refine hj128 ?_
  show fl_Tq _ 321 85 [some (.inr (.inr (.inl (76, 277)))), some (.inl a), some (.inl (Int32.ofNat j)), some (.inl b), some (.inl c)] [.inl (z321_F_j77_0 a b c j)] (f, l) _
  exact fl_Tq.ret rfl rfl rfl k
theorem z322_A {L : Nat} {xs : Nat → Int32} {f : t2_F} {l : t2_L} {Q : Option fl_V → fl_M → Prop} {a : Int32}  (k : fl_Tq (pw_P L xs) 322 5 [some (.inr (.inr (.inl (76, 277)))), some (.inl a), none, none, none, none] [.inl (300 : Int32), .inl a, .inr (.inr (.inl (76, 277)))] (f, l) Q) : fl_Tq (pw_P L xs) 322 0 [some (.inr (.inr (.inl (76, 277)))), some (.inl a), none, none, none, none] [] (f, l) Q := by
  refine fl_Tq.stp (pc' := 1) (lv' := [some (.inr (.inr (.inl (76, 277)))), some (.inl a), none, none, none, none]) (st' := [.inr (.inr (.inl (76, 277)))]) (m' := (f, l)) rfl rfl (fl_bo rfl) rfl ?_
  refine fl_Tq.stp (pc' := 2) (lv' := [some (.inr (.inr (.inl (76, 277)))), some (.inl a), none, none, none, none]) (st' := [.inl a, .inr (.inr (.inl (76, 277)))]) (m' := (f, l)) rfl rfl (fl_bo rfl) rfl ?_
  refine fl_Tq.cS (c := (300 : Int32)) rfl (by decide +kernel) (fl_bo rfl) ?_
  exact k
theorem z322_B {L : Nat} {xs : Nat → Int32} {f : t2_F} {l : t2_L} {Q : Option fl_V → fl_M → Prop} {a z : Int32}  (k : (z.toInt = 0) → Q (some (.inl (-1 : Int32))) (f, l)) (k1 : (¬ (z.toInt = 0)) → ((f 280 2).toInt = 0) → Q (some (.inl (-1 : Int32))) (f, l)) (k2 : (¬ (z.toInt = 0)) → (¬ ((f 280 2).toInt = 0)) → fl_Tq (pw_P L xs) 322 29 [some (.inr (.inr (.inl (76, 277)))), some (.inl a), some (.inl (0 : Int32)), none, none, none] [.inl a, .inl (0 : Int32), .inl (11 : Int32), .inr (.inr (.inl (76, 277)))] (f, l) Q) : fl_Tq (pw_P L xs) 322 8 [some (.inr (.inr (.inl (76, 277)))), some (.inl a), none, none, none, none] [.inl z] (f, l) Q := by
  by_cases h1 : z.toInt = 0
  · refine fl_Tq.zt rfl (fl_bo rfl) (c1_eq_t h1) rfl ?_
    refine fl_Tq.cI (c := (-1 : Int32)) rfl (by decide +kernel) (fl_bo rfl) ?_
    exact fl_Tq.ret rfl rfl rfl (k h1)
  · refine fl_Tq.zf rfl (fl_bo rfl) (c1_eq_f h1) rfl ?_
    refine fl_Tq.stp (pc' := 12) (lv' := [some (.inr (.inr (.inl (76, 277)))), some (.inl a), none, none, none, none]) (st' := [.inr (.inr (.inl (76, 277)))]) (m' := (f, l)) rfl rfl (fl_bo rfl) rfl ?_
    refine fl_Tq.stp (pc' := 15) (lv' := [some (.inr (.inr (.inl (76, 277)))), some (.inl a), none, none, none, none]) (st' := [.inr (.inr (.inl (79, 280)))]) (m' := (f, l)) rfl rfl (fl_bo rfl) rfl ?_
    refine fl_Tq.cI (c := (2 : Int32)) rfl (by decide +kernel) (fl_bo rfl) ?_
    refine fl_Tq.ldV (p := 280) (τ := 79) (n := 29780) (z := (0, 0, 0)) (k := 2) (v := f 280 2) rfl (fl_bo rfl) rfl (by decide +kernel) (by decide) rfl ?_
    by_cases h2 : (f 280 2).toInt = 0
    · refine fl_Tq.zf rfl (fl_bo rfl) (c1_ne_f h2) rfl ?_
      refine fl_Tq.cI (c := (-1 : Int32)) rfl (by decide +kernel) (fl_bo rfl) ?_
      exact fl_Tq.ret rfl rfl rfl (k1 h1 h2)
    · refine fl_Tq.zt rfl (fl_bo rfl) (c1_ne_t h2) rfl ?_
      refine fl_Tq.cI (c := (0 : Int32)) rfl (by decide +kernel) (fl_bo rfl) ?_
      refine fl_Tq.stp (pc' := 24) (lv' := [some (.inr (.inr (.inl (76, 277)))), some (.inl a), some (.inl (0 : Int32)), none, none, none]) (st' := []) (m' := (f, l)) rfl rfl (fl_bo rfl) rfl ?_
      refine fl_Tq.stp (pc' := 25) (lv' := [some (.inr (.inr (.inl (76, 277)))), some (.inl a), some (.inl (0 : Int32)), none, none, none]) (st' := [.inr (.inr (.inl (76, 277)))]) (m' := (f, l)) rfl rfl (fl_bo rfl) rfl ?_
      refine fl_Tq.cB (c := (11 : Int32)) rfl (by decide +kernel) (fl_bo rfl) ?_
      refine fl_Tq.cI (c := (0 : Int32)) rfl (by decide +kernel) (fl_bo rfl) ?_
      refine fl_Tq.stp (pc' := 29) (lv' := [some (.inr (.inr (.inl (76, 277)))), some (.inl a), some (.inl (0 : Int32)), none, none, none]) (st' := [.inl a, .inl (0 : Int32), .inl (11 : Int32), .inr (.inr (.inl (76, 277)))]) (m' := (f, l)) rfl rfl (fl_bo rfl) rfl ?_
      exact k2 h1 h2
theorem z322_C {L : Nat} {xs : Nat → Int32} {f : t2_F} {l : t2_L} {Q : Option fl_V → fl_M → Prop} {a b z : Int32}  (k : fl_Tq (pw_P L xs) 322 36 [some (.inr (.inr (.inl (76, 277)))), some (.inl a), some (.inl b), some (.inl z), some (.inl (1 : Int32)), none] [] (f, l) Q) : fl_Tq (pw_P L xs) 322 32 [some (.inr (.inr (.inl (76, 277)))), some (.inl a), some (.inl b), none, none, none] [.inl z] (f, l) Q := by
  refine fl_Tq.stp (pc' := 33) (lv' := [some (.inr (.inr (.inl (76, 277)))), some (.inl a), some (.inl b), some (.inl z), none, none]) (st' := []) (m' := (f, l)) rfl rfl (fl_bo rfl) rfl ?_
  refine fl_Tq.cI (c := (1 : Int32)) rfl (by decide +kernel) (fl_bo rfl) ?_
  refine fl_Tq.stp (pc' := 36) (lv' := [some (.inr (.inr (.inl (76, 277)))), some (.inl a), some (.inl b), some (.inl z), some (.inl (1 : Int32)), none]) (st' := []) (m' := (f, l)) rfl rfl (fl_bo rfl) rfl ?_
  exact k
theorem z322_D {L : Nat} {xs : Nat → Int32} {f : t2_F} {l : t2_L} {Q : Option fl_V → fl_M → Prop} {a b c : Int32} {j : Nat}  (k : ((Int32.ofNat j).toInt < (3 : Int32).toInt) → fl_Tq (pw_P L xs) 322 48 [some (.inr (.inr (.inl (76, 277)))), some (.inl a), some (.inl b), some (.inl c), some (.inl (Int32.ofNat j)), none] [.inl a, .inl (Int32.ofNat j), .inl (11 : Int32), .inr (.inr (.inl (76, 277)))] (f, l) Q) (k1 : (¬ ((Int32.ofNat j).toInt < (3 : Int32).toInt)) → Q (some (.inl b)) (f, l)) : fl_Tq (pw_P L xs) 322 36 [some (.inr (.inr (.inl (76, 277)))), some (.inl a), some (.inl b), some (.inl c), some (.inl (Int32.ofNat j)), none] [] (f, l) Q := by
  refine fl_Tq.stp (pc' := 38) (lv' := [some (.inr (.inr (.inl (76, 277)))), some (.inl a), some (.inl b), some (.inl c), some (.inl (Int32.ofNat j)), none]) (st' := [.inl (Int32.ofNat j)]) (m' := (f, l)) rfl rfl (fl_bo rfl) rfl ?_
  refine fl_Tq.cI (c := (3 : Int32)) rfl (by decide +kernel) (fl_bo rfl) ?_
  by_cases h1 : (Int32.ofNat j).toInt < (3 : Int32).toInt
  · refine fl_Tq.jf rfl (fl_bo rfl) (c2_ge_f h1) rfl ?_
    refine fl_Tq.stp (pc' := 43) (lv' := [some (.inr (.inr (.inl (76, 277)))), some (.inl a), some (.inl b), some (.inl c), some (.inl (Int32.ofNat j)), none]) (st' := [.inr (.inr (.inl (76, 277)))]) (m' := (f, l)) rfl rfl (fl_bo rfl) rfl ?_
    refine fl_Tq.cB (c := (11 : Int32)) rfl (by decide +kernel) (fl_bo rfl) ?_
    refine fl_Tq.stp (pc' := 47) (lv' := [some (.inr (.inr (.inl (76, 277)))), some (.inl a), some (.inl b), some (.inl c), some (.inl (Int32.ofNat j)), none]) (st' := [.inl (Int32.ofNat j), .inl (11 : Int32), .inr (.inr (.inl (76, 277)))]) (m' := (f, l)) rfl rfl (fl_bo rfl) rfl ?_
    refine fl_Tq.stp (pc' := 48) (lv' := [some (.inr (.inr (.inl (76, 277)))), some (.inl a), some (.inl b), some (.inl c), some (.inl (Int32.ofNat j)), none]) (st' := [.inl a, .inl (Int32.ofNat j), .inl (11 : Int32), .inr (.inr (.inl (76, 277)))]) (m' := (f, l)) rfl rfl (fl_bo rfl) rfl ?_
    exact k h1
  · refine fl_Tq.jt rfl (fl_bo rfl) (c2_ge_t h1) rfl ?_
    refine fl_Tq.stp (pc' := 75) (lv' := [some (.inr (.inr (.inl (76, 277)))), some (.inl a), some (.inl b), some (.inl c), some (.inl (Int32.ofNat j)), none]) (st' := [.inl b]) (m' := (f, l)) rfl rfl (fl_bo rfl) rfl ?_
    exact fl_Tq.ret rfl rfl rfl (k1 h1)
theorem z322_E {L : Nat} {xs : Nat → Int32} {f : t2_F} {l : t2_L} {Q : Option fl_V → fl_M → Prop} {a b c z : Int32} {j : Nat}  (k : fl_Tq (pw_P L xs) 322 36 [some (.inr (.inr (.inl (76, 277)))), some (.inl a), some (.inl (if z.toInt < c.toInt then Int32.ofNat j else b)), some (.inl (if z.toInt < c.toInt then z else c)), some (.inl ((Int32.ofNat j) + (1 : Int32))), some (.inl z)] [] (f, l) Q) : fl_Tq (pw_P L xs) 322 51 [some (.inr (.inr (.inl (76, 277)))), some (.inl a), some (.inl b), some (.inl c), some (.inl (Int32.ofNat j)), none] [.inl z] (f, l) Q := by
  refine fl_Tq.stp (pc' := 53) (lv' := [some (.inr (.inr (.inl (76, 277)))), some (.inl a), some (.inl b), some (.inl c), some (.inl (Int32.ofNat j)), some (.inl z)]) (st' := []) (m' := (f, l)) rfl rfl (fl_bo rfl) rfl ?_
  refine fl_Tq.stp (pc' := 55) (lv' := [some (.inr (.inr (.inl (76, 277)))), some (.inl a), some (.inl b), some (.inl c), some (.inl (Int32.ofNat j)), some (.inl z)]) (st' := [.inl z]) (m' := (f, l)) rfl rfl (fl_bo rfl) rfl ?_
  refine fl_Tq.stp (pc' := 56) (lv' := [some (.inr (.inr (.inl (76, 277)))), some (.inl a), some (.inl b), some (.inl c), some (.inl (Int32.ofNat j)), some (.inl z)]) (st' := [.inl c, .inl z]) (m' := (f, l)) rfl rfl (fl_bo rfl) rfl ?_
  have hj129 : fl_Tq (pw_P L xs) 322 68 [some (.inr (.inr (.inl (76, 277)))), some (.inl a), some (.inl (if z.toInt < c.toInt then Int32.ofNat j else b)), some (.inl (if z.toInt < c.toInt then z else c)), some (.inl (Int32.ofNat j)), some (.inl z)] [] (f, l) Q → fl_Tq (pw_P L xs) 322 56 [some (.inr (.inr (.inl (76, 277)))), some (.inl a), some (.inl b), some (.inl c), some (.inl (Int32.ofNat j)), some (.inl z)] [.inl c, .inl z] (f, l) Q := by
    intro hJ
    by_cases h1 : z.toInt < c.toInt
    · refine fl_Tq.jt rfl (fl_bo rfl) (c2_lt_t h1) rfl ?_
      refine fl_Tq.stp (pc' := 64) (lv' := [some (.inr (.inr (.inl (76, 277)))), some (.inl a), some (.inl b), some (.inl c), some (.inl (Int32.ofNat j)), some (.inl z)]) (st' := [.inl (Int32.ofNat j)]) (m' := (f, l)) rfl rfl (fl_bo rfl) rfl ?_
      refine fl_Tq.stp (pc' := 65) (lv' := [some (.inr (.inr (.inl (76, 277)))), some (.inl a), some (.inl (Int32.ofNat j)), some (.inl c), some (.inl (Int32.ofNat j)), some (.inl z)]) (st' := []) (m' := (f, l)) rfl rfl (fl_bo rfl) rfl ?_
      refine fl_Tq.stp (pc' := 67) (lv' := [some (.inr (.inr (.inl (76, 277)))), some (.inl a), some (.inl (Int32.ofNat j)), some (.inl c), some (.inl (Int32.ofNat j)), some (.inl z)]) (st' := [.inl z]) (m' := (f, l)) rfl rfl (fl_bo rfl) rfl ?_
      refine fl_Tq.stp (pc' := 68) (lv' := [some (.inr (.inr (.inl (76, 277)))), some (.inl a), some (.inl (Int32.ofNat j)), some (.inl z), some (.inl (Int32.ofNat j)), some (.inl z)]) (st' := []) (m' := (f, l)) rfl rfl (fl_bo rfl) rfl ?_
      have e0 : (if z.toInt < c.toInt then Int32.ofNat j else b) = Int32.ofNat j := by simp only [if_pos h1]
      have e1 : (if z.toInt < c.toInt then z else c) = z := by simp only [if_pos h1]
      rw [e0, e1] at hJ
      exact hJ
    · refine fl_Tq.jf rfl (fl_bo rfl) (c2_lt_f h1) rfl ?_
      refine fl_Tq.stp (pc' := 68) (lv' := [some (.inr (.inr (.inl (76, 277)))), some (.inl a), some (.inl b), some (.inl c), some (.inl (Int32.ofNat j)), some (.inl z)]) (st' := []) (m' := (f, l)) rfl rfl (fl_bo rfl) rfl ?_
      have e0 : (if z.toInt < c.toInt then Int32.ofNat j else b) = b := by simp only [if_neg h1]
      have e1 : (if z.toInt < c.toInt then z else c) = c := by simp only [if_neg h1]
      rw [e0, e1] at hJ
      exact hJ
  refine hj129 ?_
  show fl_Tq _ 322 68 [some (.inr (.inr (.inl (76, 277)))), some (.inl a), some (.inl (if z.toInt < c.toInt then Int32.ofNat j else b)), some (.inl (if z.toInt < c.toInt then z else c)), some (.inl (Int32.ofNat j)), some (.inl z)] [] (f, l) _
  refine fl_Tq.stp (pc' := 71) (lv' := [some (.inr (.inr (.inl (76, 277)))), some (.inl a), some (.inl (if z.toInt < c.toInt then Int32.ofNat j else b)), some (.inl (if z.toInt < c.toInt then z else c)), some (.inl ((Int32.ofNat j) + (1 : Int32))), some (.inl z)]) (st' := []) (m' := (f, l)) rfl rfl (fl_bo rfl) rfl ?_
  refine fl_Tq.stp (pc' := 36) (lv' := [some (.inr (.inr (.inl (76, 277)))), some (.inl a), some (.inl (if z.toInt < c.toInt then Int32.ofNat j else b)), some (.inl (if z.toInt < c.toInt then z else c)), some (.inl ((Int32.ofNat j) + (1 : Int32))), some (.inl z)]) (st' := []) (m' := (f, l)) rfl rfl (fl_bo rfl) rfl ?_
  exact k
