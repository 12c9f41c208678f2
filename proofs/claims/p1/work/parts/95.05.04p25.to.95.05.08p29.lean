/-! 95.05.04p25.lean.txt -/
section
theorem x_mod_A {L : Nat} {xs : Nat → Int32} {f : t2_F} {l : t2_L} {Q : Option fl_V → fl_M → Prop} {a b : Int32}  (k : ((t2_within_v a (0 : Int32) (3 : Int32)).toInt = 0) → Q (some (.inl (-1000000000 : Int32))) (f, l)) (k1 : (¬ ((t2_within_v a (0 : Int32) (3 : Int32)).toInt = 0)) → ((t2_within_v b (0 : Int32) (3 : Int32)).toInt = 0) → Q (some (.inl (-1000000000 : Int32))) (f, l)) (k2 : (¬ ((t2_within_v a (0 : Int32) (3 : Int32)).toInt = 0)) → (¬ ((t2_within_v b (0 : Int32) (3 : Int32)).toInt = 0)) → ((a * (4 : Int32)).toInt < (t2_min_v ((a * (4 : Int32)) + (4 : Int32)) (f 1 5)).toInt) → fl_Tq (pw_P L xs) 126 59 [some (.inr (.inr (.inl (0, 0)))), some (.inl a), some (.inl b), some (.inl (a * (4 : Int32))), some (.inl (t2_min_v ((a * (4 : Int32)) + (4 : Int32)) (f 1 5)))] [.inl b, .inl (t2_min_v ((a * (4 : Int32)) + (4 : Int32)) (f 1 5)), .inl (a * (4 : Int32)), .inr (.inr (.inl (1, 1)))] (f, l) Q) (k3 : (¬ ((t2_within_v a (0 : Int32) (3 : Int32)).toInt = 0)) → (¬ ((t2_within_v b (0 : Int32) (3 : Int32)).toInt = 0)) → (¬ ((a * (4 : Int32)).toInt < (t2_min_v ((a * (4 : Int32)) + (4 : Int32)) (f 1 5)).toInt)) → Q (some (.inl (-1000000000 : Int32))) (f, l)) : fl_Tq (pw_P L xs) 126 0 [some (.inr (.inr (.inl (0, 0)))), some (.inl a), some (.inl b), none, none] [] (f, l) Q := by
  refine fl_Tq.stp (pc' := 1) (lv' := [some (.inr (.inr (.inl (0, 0)))), some (.inl a), some (.inl b), none, none]) (st' := [.inl a]) (m' := (f, l)) rfl rfl (fl_bo rfl) rfl ?_
  refine fl_Tq.cI (c := (0 : Int32)) rfl (by decide +kernel) (fl_bo rfl) ?_
  refine fl_Tq.cI (c := (3 : Int32)) rfl (by decide +kernel) (fl_bo rfl) ?_
  refine fl_Tq.cal rfl rfl (fl_bo rfl) rfl ?_
  refine t2_within_q  ?_
  show fl_Tq _ 126 6 [some (.inr (.inr (.inl (0, 0)))), some (.inl a), some (.inl b), none, none] [.inl (t2_within_v a (0 : Int32) (3 : Int32))] (f, l) _
  by_cases h1 : (t2_within_v a (0 : Int32) (3 : Int32)).toInt = 0
  · refine fl_Tq.zt rfl (fl_bo rfl) (c1_eq_t h1) rfl ?_
    refine fl_Tq.stp (pc' := 20) (lv' := [some (.inr (.inr (.inl (0, 0)))), some (.inl a), some (.inl b), none, none]) (st' := [.inl (-1000000000 : Int32)]) (m' := (f, l)) rfl rfl (fl_bo rfl) rfl ?_
    exact fl_Tq.ret rfl rfl rfl (k h1)
  · refine fl_Tq.zf rfl (fl_bo rfl) (c1_eq_f h1) rfl ?_
    refine fl_Tq.stp (pc' := 10) (lv' := [some (.inr (.inr (.inl (0, 0)))), some (.inl a), some (.inl b), none, none]) (st' := [.inl b]) (m' := (f, l)) rfl rfl (fl_bo rfl) rfl ?_
    refine fl_Tq.cI (c := (0 : Int32)) rfl (by decide +kernel) (fl_bo rfl) ?_
    refine fl_Tq.cI (c := (3 : Int32)) rfl (by decide +kernel) (fl_bo rfl) ?_
    refine fl_Tq.cal rfl rfl (fl_bo rfl) rfl ?_
    refine t2_within_q  ?_
    show fl_Tq _ 126 15 [some (.inr (.inr (.inl (0, 0)))), some (.inl a), some (.inl b), none, none] [.inl (t2_within_v b (0 : Int32) (3 : Int32))] (f, l) _
    by_cases h2 : (t2_within_v b (0 : Int32) (3 : Int32)).toInt = 0
    · refine fl_Tq.zf rfl (fl_bo rfl) (c1_ne_f h2) rfl ?_
      refine fl_Tq.stp (pc' := 20) (lv' := [some (.inr (.inr (.inl (0, 0)))), some (.inl a), some (.inl b), none, none]) (st' := [.inl (-1000000000 : Int32)]) (m' := (f, l)) rfl rfl (fl_bo rfl) rfl ?_
      exact fl_Tq.ret rfl rfl rfl (k1 h1 h2)
    · refine fl_Tq.zt rfl (fl_bo rfl) (c1_ne_t h2) rfl ?_
      refine fl_Tq.stp (pc' := 22) (lv' := [some (.inr (.inr (.inl (0, 0)))), some (.inl a), some (.inl b), none, none]) (st' := [.inl a]) (m' := (f, l)) rfl rfl (fl_bo rfl) rfl ?_
      refine fl_Tq.cI (c := (4 : Int32)) rfl (by decide +kernel) (fl_bo rfl) ?_
      refine fl_Tq.stp (pc' := 24) (lv' := [some (.inr (.inr (.inl (0, 0)))), some (.inl a), some (.inl b), none, none]) (st' := [.inl (a * (4 : Int32))]) (m' := (f, l)) rfl rfl (fl_bo rfl) rfl ?_
      refine fl_Tq.stp (pc' := 25) (lv' := [some (.inr (.inr (.inl (0, 0)))), some (.inl a), some (.inl b), some (.inl (a * (4 : Int32))), none]) (st' := []) (m' := (f, l)) rfl rfl (fl_bo rfl) rfl ?_
      refine fl_Tq.stp (pc' := 26) (lv' := [some (.inr (.inr (.inl (0, 0)))), some (.inl a), some (.inl b), some (.inl (a * (4 : Int32))), none]) (st' := [.inl (a * (4 : Int32))]) (m' := (f, l)) rfl rfl (fl_bo rfl) rfl ?_
      refine fl_Tq.cI (c := (4 : Int32)) rfl (by decide +kernel) (fl_bo rfl) ?_
      refine fl_Tq.stp (pc' := 28) (lv' := [some (.inr (.inr (.inl (0, 0)))), some (.inl a), some (.inl b), some (.inl (a * (4 : Int32))), none]) (st' := [.inl ((a * (4 : Int32)) + (4 : Int32))]) (m' := (f, l)) rfl rfl (fl_bo rfl) rfl ?_
      refine fl_Tq.stp (pc' := 29) (lv' := [some (.inr (.inr (.inl (0, 0)))), some (.inl a), some (.inl b), some (.inl (a * (4 : Int32))), none]) (st' := [.inr (.inr (.inl (0, 0))), .inl ((a * (4 : Int32)) + (4 : Int32))]) (m' := (f, l)) rfl rfl (fl_bo rfl) rfl ?_
      refine fl_Tq.stp (pc' := 32) (lv' := [some (.inr (.inr (.inl (0, 0)))), some (.inl a), some (.inl b), some (.inl (a * (4 : Int32))), none]) (st' := [.inr (.inr (.inl (1, 1))), .inl ((a * (4 : Int32)) + (4 : Int32))]) (m' := (f, l)) rfl rfl (fl_bo rfl) rfl ?_
      refine fl_Tq.gfV (k := 5) (v := f 1 5) rfl (fl_bo rfl) rfl rfl ?_
      refine fl_Tq.cal rfl rfl (fl_bo rfl) rfl ?_
      refine t2_min_q  ?_
      show fl_Tq _ 126 38 [some (.inr (.inr (.inl (0, 0)))), some (.inl a), some (.inl b), some (.inl (a * (4 : Int32))), none] [.inl (t2_min_v ((a * (4 : Int32)) + (4 : Int32)) (f 1 5))] (f, l) _
      refine fl_Tq.stp (pc' := 40) (lv' := [some (.inr (.inr (.inl (0, 0)))), some (.inl a), some (.inl b), some (.inl (a * (4 : Int32))), some (.inl (t2_min_v ((a * (4 : Int32)) + (4 : Int32)) (f 1 5)))]) (st' := []) (m' := (f, l)) rfl rfl (fl_bo rfl) rfl ?_
      refine fl_Tq.stp (pc' := 41) (lv' := [some (.inr (.inr (.inl (0, 0)))), some (.inl a), some (.inl b), some (.inl (a * (4 : Int32))), some (.inl (t2_min_v ((a * (4 : Int32)) + (4 : Int32)) (f 1 5)))]) (st' := [.inl (a * (4 : Int32))]) (m' := (f, l)) rfl rfl (fl_bo rfl) rfl ?_
      refine fl_Tq.stp (pc' := 43) (lv' := [some (.inr (.inr (.inl (0, 0)))), some (.inl a), some (.inl b), some (.inl (a * (4 : Int32))), some (.inl (t2_min_v ((a * (4 : Int32)) + (4 : Int32)) (f 1 5)))]) (st' := [.inl (t2_min_v ((a * (4 : Int32)) + (4 : Int32)) (f 1 5)), .inl (a * (4 : Int32))]) (m' := (f, l)) rfl rfl (fl_bo rfl) rfl ?_
      by_cases h3 : (a * (4 : Int32)).toInt < (t2_min_v ((a * (4 : Int32)) + (4 : Int32)) (f 1 5)).toInt
      · refine fl_Tq.jt rfl (fl_bo rfl) (c2_lt_t h3) rfl ?_
        refine fl_Tq.stp (pc' := 52) (lv' := [some (.inr (.inr (.inl (0, 0)))), some (.inl a), some (.inl b), some (.inl (a * (4 : Int32))), some (.inl (t2_min_v ((a * (4 : Int32)) + (4 : Int32)) (f 1 5)))]) (st' := [.inr (.inr (.inl (0, 0)))]) (m' := (f, l)) rfl rfl (fl_bo rfl) rfl ?_
        refine fl_Tq.stp (pc' := 55) (lv' := [some (.inr (.inr (.inl (0, 0)))), some (.inl a), some (.inl b), some (.inl (a * (4 : Int32))), some (.inl (t2_min_v ((a * (4 : Int32)) + (4 : Int32)) (f 1 5)))]) (st' := [.inr (.inr (.inl (1, 1)))]) (m' := (f, l)) rfl rfl (fl_bo rfl) rfl ?_
        refine fl_Tq.stp (pc' := 56) (lv' := [some (.inr (.inr (.inl (0, 0)))), some (.inl a), some (.inl b), some (.inl (a * (4 : Int32))), some (.inl (t2_min_v ((a * (4 : Int32)) + (4 : Int32)) (f 1 5)))]) (st' := [.inl (a * (4 : Int32)), .inr (.inr (.inl (1, 1)))]) (m' := (f, l)) rfl rfl (fl_bo rfl) rfl ?_
        refine fl_Tq.stp (pc' := 58) (lv' := [some (.inr (.inr (.inl (0, 0)))), some (.inl a), some (.inl b), some (.inl (a * (4 : Int32))), some (.inl (t2_min_v ((a * (4 : Int32)) + (4 : Int32)) (f 1 5)))]) (st' := [.inl (t2_min_v ((a * (4 : Int32)) + (4 : Int32)) (f 1 5)), .inl (a * (4 : Int32)), .inr (.inr (.inl (1, 1)))]) (m' := (f, l)) rfl rfl (fl_bo rfl) rfl ?_
        refine fl_Tq.stp (pc' := 59) (lv' := [some (.inr (.inr (.inl (0, 0)))), some (.inl a), some (.inl b), some (.inl (a * (4 : Int32))), some (.inl (t2_min_v ((a * (4 : Int32)) + (4 : Int32)) (f 1 5)))]) (st' := [.inl b, .inl (t2_min_v ((a * (4 : Int32)) + (4 : Int32)) (f 1 5)), .inl (a * (4 : Int32)), .inr (.inr (.inl (1, 1)))]) (m' := (f, l)) rfl rfl (fl_bo rfl) rfl ?_
        exact k2 h1 h2 h3
      · refine fl_Tq.jf rfl (fl_bo rfl) (c2_lt_f h3) rfl ?_
        refine fl_Tq.stp (pc' := 48) (lv' := [some (.inr (.inr (.inl (0, 0)))), some (.inl a), some (.inl b), some (.inl (a * (4 : Int32))), some (.inl (t2_min_v ((a * (4 : Int32)) + (4 : Int32)) (f 1 5)))]) (st' := [.inl (-1000000000 : Int32)]) (m' := (f, l)) rfl rfl (fl_bo rfl) rfl ?_
        refine fl_Tq.stp (pc' := 62) (lv' := [some (.inr (.inr (.inl (0, 0)))), some (.inl a), some (.inl b), some (.inl (a * (4 : Int32))), some (.inl (t2_min_v ((a * (4 : Int32)) + (4 : Int32)) (f 1 5)))]) (st' := [.inl (-1000000000 : Int32)]) (m' := (f, l)) rfl rfl (fl_bo rfl) rfl ?_
        exact fl_Tq.ret rfl rfl rfl (k3 h1 h2 h3)
theorem x_mod_B {L : Nat} {xs : Nat → Int32} {f : t2_F} {l : t2_L} {Q : Option fl_V → fl_M → Prop} {a b z : Int32}  (k : Q (some (.inl z)) (f, l)) : fl_Tq (pw_P L xs) 126 62 [some (.inr (.inr (.inl (0, 0)))), some (.inl a), some (.inl b), none, none] [.inl z] (f, l) Q := by
  exact fl_Tq.ret rfl rfl rfl k
theorem x_tm_A {L : Nat} {xs : Nat → Int32} {f : t2_F} {l : t2_L} {Q : Option fl_V → fl_M → Prop} {a b c : Int32}  (k : fl_Tq (pw_P L xs) 74 11 [some (.inr (.inr (.inl (1, 1)))), some (.inl a), some (.inl b), some (.inl c), some (.inl (0 : Int32)), some (.inl (-400 : Int32)), some (.inl a)] [] (f, l) Q) : fl_Tq (pw_P L xs) 74 0 [some (.inr (.inr (.inl (1, 1)))), some (.inl a), some (.inl b), some (.inl c), none, none, none] [] (f, l) Q := by
  refine fl_Tq.cI (c := (0 : Int32)) rfl (by decide +kernel) (fl_bo rfl) ?_
  refine fl_Tq.stp (pc' := 3) (lv' := [some (.inr (.inr (.inl (1, 1)))), some (.inl a), some (.inl b), some (.inl c), some (.inl (0 : Int32)), none, none]) (st' := []) (m' := (f, l)) rfl rfl (fl_bo rfl) rfl ?_
  refine fl_Tq.cS (c := (-400 : Int32)) rfl (by decide +kernel) (fl_bo rfl) ?_
  refine fl_Tq.stp (pc' := 8) (lv' := [some (.inr (.inr (.inl (1, 1)))), some (.inl a), some (.inl b), some (.inl c), some (.inl (0 : Int32)), some (.inl (-400 : Int32)), none]) (st' := []) (m' := (f, l)) rfl rfl (fl_bo rfl) rfl ?_
  refine fl_Tq.stp (pc' := 9) (lv' := [some (.inr (.inr (.inl (1, 1)))), some (.inl a), some (.inl b), some (.inl c), some (.inl (0 : Int32)), some (.inl (-400 : Int32)), none]) (st' := [.inl a]) (m' := (f, l)) rfl rfl (fl_bo rfl) rfl ?_
  refine fl_Tq.stp (pc' := 11) (lv' := [some (.inr (.inr (.inl (1, 1)))), some (.inl a), some (.inl b), some (.inl c), some (.inl (0 : Int32)), some (.inl (-400 : Int32)), some (.inl a)]) (st' := []) (m' := (f, l)) rfl rfl (fl_bo rfl) rfl ?_
  exact k
theorem x_tm_B {L : Nat} {xs : Nat → Int32} {f : t2_F} {l : t2_L} {Q : Option fl_V → fl_M → Prop} {a b c z y : Int32} {C : Nat} (hC : C < 16) (hkk : (Int32.ofNat C).toInt < b.toInt) (k : fl_Tq (pw_P L xs) 74 11 [some (.inr (.inr (.inl (1, 1)))), some (.inl a), some (.inl b), some (.inl c), some (.inl (z + (c0_voltsAt_v f C (f 1 9)))), some (.inl (if (Int32.ofNat C).toInt = a.toInt then f (18 + 4 * C) 6 else t2_max_v y (f (18 + 4 * C) 6))), some (.inl ((Int32.ofNat C) + (1 : Int32)))] [] (f, l) Q) : fl_Tq (pw_P L xs) 74 11 [some (.inr (.inr (.inl (1, 1)))), some (.inl a), some (.inl b), some (.inl c), some (.inl z), some (.inl y), some (.inl (Int32.ofNat C))] [] (f, l) Q := by
  refine fl_Tq.stp (pc' := 13) (lv' := [some (.inr (.inr (.inl (1, 1)))), some (.inl a), some (.inl b), some (.inl c), some (.inl z), some (.inl y), some (.inl (Int32.ofNat C))]) (st' := [.inl (Int32.ofNat C)]) (m' := (f, l)) rfl rfl (fl_bo rfl) rfl ?_
  refine fl_Tq.stp (pc' := 14) (lv' := [some (.inr (.inr (.inl (1, 1)))), some (.inl a), some (.inl b), some (.inl c), some (.inl z), some (.inl y), some (.inl (Int32.ofNat C))]) (st' := [.inl b, .inl (Int32.ofNat C)]) (m' := (f, l)) rfl rfl (fl_bo rfl) rfl ?_
  refine fl_Tq.jf rfl (fl_bo rfl) (c2_ge_f hkk) rfl ?_
  refine fl_Tq.stp (pc' := 19) (lv' := [some (.inr (.inr (.inl (1, 1)))), some (.inl a), some (.inl b), some (.inl c), some (.inl z), some (.inl y), some (.inl (Int32.ofNat C))]) (st' := [.inl z]) (m' := (f, l)) rfl rfl (fl_bo rfl) rfl ?_
  refine fl_Tq.stp (pc' := 20) (lv' := [some (.inr (.inr (.inl (1, 1)))), some (.inl a), some (.inl b), some (.inl c), some (.inl z), some (.inl y), some (.inl (Int32.ofNat C))]) (st' := [.inr (.inr (.inl (1, 1))), .inl z]) (m' := (f, l)) rfl rfl (fl_bo rfl) rfl ?_
  refine fl_Tq.stp (pc' := 23) (lv' := [some (.inr (.inr (.inl (1, 1)))), some (.inl a), some (.inl b), some (.inl c), some (.inl z), some (.inl y), some (.inl (Int32.ofNat C))]) (st' := [.inr (.inr (.inl (2, 2))), .inl z]) (m' := (f, l)) rfl rfl (fl_bo rfl) rfl ?_
  refine fl_Tq.stp (pc' := 25) (lv' := [some (.inr (.inr (.inl (1, 1)))), some (.inl a), some (.inl b), some (.inl c), some (.inl z), some (.inl y), some (.inl (Int32.ofNat C))]) (st' := [.inl (Int32.ofNat C), .inr (.inr (.inl (2, 2))), .inl z]) (m' := (f, l)) rfl rfl (fl_bo rfl) rfl ?_
  refine fl_Tq.qld (p := 2) (τ := 2) (n := 16) (t := 18) (b := 16) (d := 3) (k := C) rfl (fl_bo rfl) rfl (at_ofN (by omega)) (by omega) ?_
  show fl_Tq _ 74 26 [some (.inr (.inr (.inl (1, 1)))), some (.inl a), some (.inl b), some (.inl c), some (.inl z), some (.inl y), some (.inl (Int32.ofNat C))] [.inr (.inr (.inl (18, 18 + 4 * C))), .inl z] (f, l) _
  refine fl_Tq.stp (pc' := 27) (lv' := [some (.inr (.inr (.inl (1, 1)))), some (.inl a), some (.inl b), some (.inl c), some (.inl z), some (.inl y), some (.inl (Int32.ofNat C))]) (st' := [.inr (.inr (.inl (1, 1))), .inr (.inr (.inl (18, 18 + 4 * C))), .inl z]) (m' := (f, l)) rfl rfl (fl_oks_ok ⟨(t2_kc0 (by omega)), True.intro, True.intro⟩) rfl ?_
  refine fl_Tq.gfV (k := 9) (v := f 1 9) rfl (fl_oks_ok ⟨fl_okp (by decide +kernel) (by decide), (t2_kc0 (by omega)), True.intro, True.intro⟩) rfl rfl ?_
  refine fl_Tq.cal rfl rfl (fl_oks_ok ⟨True.intro, (t2_kc0 (by omega)), True.intro, True.intro⟩) rfl ?_
  refine c0_voltsAt_q (by omega) ?_
  show fl_Tq _ 74 33 [some (.inr (.inr (.inl (1, 1)))), some (.inl a), some (.inl b), some (.inl c), some (.inl z), some (.inl y), some (.inl (Int32.ofNat C))] [.inl (c0_voltsAt_v f C (f 1 9)), .inl z] (f, l) _
  refine fl_Tq.stp (pc' := 34) (lv' := [some (.inr (.inr (.inl (1, 1)))), some (.inl a), some (.inl b), some (.inl c), some (.inl z), some (.inl y), some (.inl (Int32.ofNat C))]) (st' := [.inl (z + (c0_voltsAt_v f C (f 1 9)))]) (m' := (f, l)) rfl rfl (fl_bo rfl) rfl ?_
  refine fl_Tq.stp (pc' := 36) (lv' := [some (.inr (.inr (.inl (1, 1)))), some (.inl a), some (.inl b), some (.inl c), some (.inl (z + (c0_voltsAt_v f C (f 1 9)))), some (.inl y), some (.inl (Int32.ofNat C))]) (st' := []) (m' := (f, l)) rfl rfl (fl_bo rfl) rfl ?_
  refine fl_Tq.stp (pc' := 38) (lv' := [some (.inr (.inr (.inl (1, 1)))), some (.inl a), some (.inl b), some (.inl c), some (.inl (z + (c0_voltsAt_v f C (f 1 9)))), some (.inl y), some (.inl (Int32.ofNat C))]) (st' := [.inl (Int32.ofNat C)]) (m' := (f, l)) rfl rfl (fl_bo rfl) rfl ?_
  refine fl_Tq.stp (pc' := 39) (lv' := [some (.inr (.inr (.inl (1, 1)))), some (.inl a), some (.inl b), some (.inl c), some (.inl (z + (c0_voltsAt_v f C (f 1 9)))), some (.inl y), some (.inl (Int32.ofNat C))]) (st' := [.inl a, .inl (Int32.ofNat C)]) (m' := (f, l)) rfl rfl (fl_bo rfl) rfl ?_
  have hj190 : fl_Tq (pw_P L xs) 74 70 [some (.inr (.inr (.inl (1, 1)))), some (.inl a), some (.inl b), some (.inl c), some (.inl (z + (c0_voltsAt_v f C (f 1 9)))), some (.inl y), some (.inl (Int32.ofNat C))] [.inl (if (Int32.ofNat C).toInt = a.toInt then f (18 + 4 * C) 6 else t2_max_v y (f (18 + 4 * C) 6))] (f, l) Q → fl_Tq (pw_P L xs) 74 39 [some (.inr (.inr (.inl (1, 1)))), some (.inl a), some (.inl b), some (.inl c), some (.inl (z + (c0_voltsAt_v f C (f 1 9)))), some (.inl y), some (.inl (Int32.ofNat C))] [.inl a, .inl (Int32.ofNat C)] (f, l) Q := by
    intro hJ
    by_cases h1 : (Int32.ofNat C).toInt = a.toInt
    · refine fl_Tq.jf rfl (fl_bo rfl) (c2_ne_f h1) rfl ?_
      refine fl_Tq.stp (pc' := 43) (lv' := [some (.inr (.inr (.inl (1, 1)))), some (.inl a), some (.inl b), some (.inl c), some (.inl (z + (c0_voltsAt_v f C (f 1 9)))), some (.inl y), some (.inl (Int32.ofNat C))]) (st' := [.inr (.inr (.inl (1, 1)))]) (m' := (f, l)) rfl rfl (fl_bo rfl) rfl ?_
      refine fl_Tq.stp (pc' := 46) (lv' := [some (.inr (.inr (.inl (1, 1)))), some (.inl a), some (.inl b), some (.inl c), some (.inl (z + (c0_voltsAt_v f C (f 1 9)))), some (.inl y), some (.inl (Int32.ofNat C))]) (st' := [.inr (.inr (.inl (2, 2)))]) (m' := (f, l)) rfl rfl (fl_bo rfl) rfl ?_
      refine fl_Tq.stp (pc' := 48) (lv' := [some (.inr (.inr (.inl (1, 1)))), some (.inl a), some (.inl b), some (.inl c), some (.inl (z + (c0_voltsAt_v f C (f 1 9)))), some (.inl y), some (.inl (Int32.ofNat C))]) (st' := [.inl (Int32.ofNat C), .inr (.inr (.inl (2, 2)))]) (m' := (f, l)) rfl rfl (fl_bo rfl) rfl ?_
      refine fl_Tq.qld (p := 2) (τ := 2) (n := 16) (t := 18) (b := 16) (d := 3) (k := C) rfl (fl_bo rfl) rfl (at_ofN (by omega)) (by omega) ?_
      show fl_Tq _ 74 49 [some (.inr (.inr (.inl (1, 1)))), some (.inl a), some (.inl b), some (.inl c), some (.inl (z + (c0_voltsAt_v f C (f 1 9)))), some (.inl y), some (.inl (Int32.ofNat C))] [.inr (.inr (.inl (18, 18 + 4 * C)))] (f, l) _
      refine fl_Tq.gfV (k := 6) (v := f (18 + 4 * C) 6) rfl (fl_oks_ok ⟨(t2_kc0 (by omega)), True.intro⟩) rfl rfl ?_
      refine fl_Tq.stp (pc' := 70) (lv' := [some (.inr (.inr (.inl (1, 1)))), some (.inl a), some (.inl b), some (.inl c), some (.inl (z + (c0_voltsAt_v f C (f 1 9)))), some (.inl y), some (.inl (Int32.ofNat C))]) (st' := [.inl (f (18 + 4 * C) 6)]) (m' := (f, l)) rfl rfl (fl_bo rfl) rfl ?_
      have e0 : (if (Int32.ofNat C).toInt = a.toInt then f (18 + 4 * C) 6 else t2_max_v y (f (18 + 4 * C) 6)) = f (18 + 4 * C) 6 := by simp only [if_pos h1]
      rw [e0] at hJ
      exact hJ
    · refine fl_Tq.jt rfl (fl_bo rfl) (c2_ne_t h1) rfl ?_
      refine fl_Tq.stp (pc' := 57) (lv' := [some (.inr (.inr (.inl (1, 1)))), some (.inl a), some (.inl b), some (.inl c), some (.inl (z + (c0_voltsAt_v f C (f 1 9)))), some (.inl y), some (.inl (Int32.ofNat C))]) (st' := [.inl y]) (m' := (f, l)) rfl rfl (fl_bo rfl) rfl ?_
      refine fl_Tq.stp (pc' := 58) (lv' := [some (.inr (.inr (.inl (1, 1)))), some (.inl a), some (.inl b), some (.inl c), some (.inl (z + (c0_voltsAt_v f C (f 1 9)))), some (.inl y), some (.inl (Int32.ofNat C))]) (st' := [.inr (.inr (.inl (1, 1))), .inl y]) (m' := (f, l)) rfl rfl (fl_bo rfl) rfl ?_
      refine fl_Tq.stp (pc' := 61) (lv' := [some (.inr (.inr (.inl (1, 1)))), some (.inl a), some (.inl b), some (.inl c), some (.inl (z + (c0_voltsAt_v f C (f 1 9)))), some (.inl y), some (.inl (Int32.ofNat C))]) (st' := [.inr (.inr (.inl (2, 2))), .inl y]) (m' := (f, l)) rfl rfl (fl_bo rfl) rfl ?_
      refine fl_Tq.stp (pc' := 63) (lv' := [some (.inr (.inr (.inl (1, 1)))), some (.inl a), some (.inl b), some (.inl c), some (.inl (z + (c0_voltsAt_v f C (f 1 9)))), some (.inl y), some (.inl (Int32.ofNat C))]) (st' := [.inl (Int32.ofNat C), .inr (.inr (.inl (2, 2))), .inl y]) (m' := (f, l)) rfl rfl (fl_bo rfl) rfl ?_
      refine fl_Tq.qld (p := 2) (τ := 2) (n := 16) (t := 18) (b := 16) (d := 3) (k := C) rfl (fl_bo rfl) rfl (at_ofN (by omega)) (by omega) ?_
      show fl_Tq _ 74 64 [some (.inr (.inr (.inl (1, 1)))), some (.inl a), some (.inl b), some (.inl c), some (.inl (z + (c0_voltsAt_v f C (f 1 9)))), some (.inl y), some (.inl (Int32.ofNat C))] [.inr (.inr (.inl (18, 18 + 4 * C))), .inl y] (f, l) _
      refine fl_Tq.gfV (k := 6) (v := f (18 + 4 * C) 6) rfl (fl_oks_ok ⟨(t2_kc0 (by omega)), True.intro, True.intro⟩) rfl rfl ?_
      refine fl_Tq.cal rfl rfl (fl_bo rfl) rfl ?_
      refine t2_max_q  ?_
      show fl_Tq _ 74 70 [some (.inr (.inr (.inl (1, 1)))), some (.inl a), some (.inl b), some (.inl c), some (.inl (z + (c0_voltsAt_v f C (f 1 9)))), some (.inl y), some (.inl (Int32.ofNat C))] [.inl (t2_max_v y (f (18 + 4 * C) 6))] (f, l) _
      have e0 : (if (Int32.ofNat C).toInt = a.toInt then f (18 + 4 * C) 6 else t2_max_v y (f (18 + 4 * C) 6)) = t2_max_v y (f (18 + 4 * C) 6) := by simp only [if_neg h1]
      rw [e0] at hJ
      exact hJ
  refine hj190 ?_
  show fl_Tq _ 74 70 [some (.inr (.inr (.inl (1, 1)))), some (.inl a), some (.inl b), some (.inl c), some (.inl (z + (c0_voltsAt_v f C (f 1 9)))), some (.inl y), some (.inl (Int32.ofNat C))] [.inl (if (Int32.ofNat C).toInt = a.toInt then f (18 + 4 * C) 6 else t2_max_v y (f (18 + 4 * C) 6))] (f, l) _
  refine fl_Tq.stp (pc' := 72) (lv' := [some (.inr (.inr (.inl (1, 1)))), some (.inl a), some (.inl b), some (.inl c), some (.inl (z + (c0_voltsAt_v f C (f 1 9)))), some (.inl (if (Int32.ofNat C).toInt = a.toInt then f (18 + 4 * C) 6 else t2_max_v y (f (18 + 4 * C) 6))), some (.inl (Int32.ofNat C))]) (st' := []) (m' := (f, l)) rfl rfl (fl_bo rfl) rfl ?_
  refine fl_Tq.stp (pc' := 75) (lv' := [some (.inr (.inr (.inl (1, 1)))), some (.inl a), some (.inl b), some (.inl c), some (.inl (z + (c0_voltsAt_v f C (f 1 9)))), some (.inl (if (Int32.ofNat C).toInt = a.toInt then f (18 + 4 * C) 6 else t2_max_v y (f (18 + 4 * C) 6))), some (.inl ((Int32.ofNat C) + (1 : Int32)))]) (st' := []) (m' := (f, l)) rfl rfl (fl_bo rfl) rfl ?_
  refine fl_Tq.stp (pc' := 11) (lv' := [some (.inr (.inr (.inl (1, 1)))), some (.inl a), some (.inl b), some (.inl c), some (.inl (z + (c0_voltsAt_v f C (f 1 9)))), some (.inl (if (Int32.ofNat C).toInt = a.toInt then f (18 + 4 * C) 6 else t2_max_v y (f (18 + 4 * C) 6))), some (.inl ((Int32.ofNat C) + (1 : Int32)))]) (st' := []) (m' := (f, l)) rfl rfl (fl_bo rfl) rfl ?_
  exact k
theorem x_tm_C {L : Nat} {xs : Nat → Int32} {f : t2_F} {l : t2_L} {Q : Option fl_V → fl_M → Prop} {a b c z y : Int32} {C : Nat} (hkk : ¬ ((Int32.ofNat C).toInt < b.toInt)) (k : (c.toInt = 0) → Q (some (.inl z)) (f, l)) (k1 : (¬ (c.toInt = 0)) → (c.toInt = 1) → Q (some (.inl y)) (f, l)) (k2 : (¬ (c.toInt = 0)) → (¬ (c.toInt = 1)) → (c.toInt = 2) → fl_Tq (pw_P L xs) 74 117 [some (.inr (.inr (.inl (1, 1)))), some (.inl a), some (.inl b), some (.inl c), some (.inl z), some (.inl y), some (.inl (Int32.ofNat C))] [.inl b, .inl a, .inr (.inr (.inl (1, 1)))] (f, l) Q) (k3 : (¬ (c.toInt = 0)) → (¬ (c.toInt = 1)) → (¬ (c.toInt = 2)) → (c.toInt = 3) → Q (some (.inl (b - a))) (f, l)) (k4 : (¬ (c.toInt = 0)) → (¬ (c.toInt = 1)) → (¬ (c.toInt = 2)) → (¬ (c.toInt = 3)) → Q (some (.inl (-1000000000 : Int32))) (f, l)) : fl_Tq (pw_P L xs) 74 11 [some (.inr (.inr (.inl (1, 1)))), some (.inl a), some (.inl b), some (.inl c), some (.inl z), some (.inl y), some (.inl (Int32.ofNat C))] [] (f, l) Q := by
  refine fl_Tq.stp (pc' := 13) (lv' := [some (.inr (.inr (.inl (1, 1)))), some (.inl a), some (.inl b), some (.inl c), some (.inl z), some (.inl y), some (.inl (Int32.ofNat C))]) (st' := [.inl (Int32.ofNat C)]) (m' := (f, l)) rfl rfl (fl_bo rfl) rfl ?_
  refine fl_Tq.stp (pc' := 14) (lv' := [some (.inr (.inr (.inl (1, 1)))), some (.inl a), some (.inl b), some (.inl c), some (.inl z), some (.inl y), some (.inl (Int32.ofNat C))]) (st' := [.inl b, .inl (Int32.ofNat C)]) (m' := (f, l)) rfl rfl (fl_bo rfl) rfl ?_
  refine fl_Tq.jt rfl (fl_bo rfl) (c2_ge_t hkk) rfl ?_
  refine fl_Tq.stp (pc' := 79) (lv' := [some (.inr (.inr (.inl (1, 1)))), some (.inl a), some (.inl b), some (.inl c), some (.inl z), some (.inl y), some (.inl (Int32.ofNat C))]) (st' := [.inl c]) (m' := (f, l)) rfl rfl (fl_bo rfl) rfl ?_
  by_cases h1 : c.toInt = 0
  · refine fl_Tq.swI (k := 0) rfl (fl_bo rfl) h1 rfl rfl ?_
    refine fl_Tq.stp (pc' := 110) (lv' := [some (.inr (.inr (.inl (1, 1)))), some (.inl a), some (.inl b), some (.inl c), some (.inl z), some (.inl y), some (.inl (Int32.ofNat C))]) (st' := [.inl z]) (m' := (f, l)) rfl rfl (fl_bo rfl) rfl ?_
    exact fl_Tq.ret rfl rfl rfl (k h1)
  by_cases h2 : c.toInt = 1
  · refine fl_Tq.swI (k := 1) rfl (fl_bo rfl) h2 rfl rfl ?_
    refine fl_Tq.stp (pc' := 113) (lv' := [some (.inr (.inr (.inl (1, 1)))), some (.inl a), some (.inl b), some (.inl c), some (.inl z), some (.inl y), some (.inl (Int32.ofNat C))]) (st' := [.inl y]) (m' := (f, l)) rfl rfl (fl_bo rfl) rfl ?_
    exact fl_Tq.ret rfl rfl rfl (k1 h1 h2)
  by_cases h3 : c.toInt = 2
  · refine fl_Tq.swI (k := 2) rfl (fl_bo rfl) h3 rfl rfl ?_
    refine fl_Tq.stp (pc' := 115) (lv' := [some (.inr (.inr (.inl (1, 1)))), some (.inl a), some (.inl b), some (.inl c), some (.inl z), some (.inl y), some (.inl (Int32.ofNat C))]) (st' := [.inr (.inr (.inl (1, 1)))]) (m' := (f, l)) rfl rfl (fl_bo rfl) rfl ?_
    refine fl_Tq.stp (pc' := 116) (lv' := [some (.inr (.inr (.inl (1, 1)))), some (.inl a), some (.inl b), some (.inl c), some (.inl z), some (.inl y), some (.inl (Int32.ofNat C))]) (st' := [.inl a, .inr (.inr (.inl (1, 1)))]) (m' := (f, l)) rfl rfl (fl_bo rfl) rfl ?_
    refine fl_Tq.stp (pc' := 117) (lv' := [some (.inr (.inr (.inl (1, 1)))), some (.inl a), some (.inl b), some (.inl c), some (.inl z), some (.inl y), some (.inl (Int32.ofNat C))]) (st' := [.inl b, .inl a, .inr (.inr (.inl (1, 1)))]) (m' := (f, l)) rfl rfl (fl_bo rfl) rfl ?_
    exact k2 h1 h2 h3
  by_cases h4 : c.toInt = 3
  · refine fl_Tq.swI (k := 3) rfl (fl_bo rfl) h4 rfl rfl ?_
    refine fl_Tq.stp (pc' := 122) (lv' := [some (.inr (.inr (.inl (1, 1)))), some (.inl a), some (.inl b), some (.inl c), some (.inl z), some (.inl y), some (.inl (Int32.ofNat C))]) (st' := [.inl b]) (m' := (f, l)) rfl rfl (fl_bo rfl) rfl ?_
    refine fl_Tq.stp (pc' := 123) (lv' := [some (.inr (.inr (.inl (1, 1)))), some (.inl a), some (.inl b), some (.inl c), some (.inl z), some (.inl y), some (.inl (Int32.ofNat C))]) (st' := [.inl a, .inl b]) (m' := (f, l)) rfl rfl (fl_bo rfl) rfl ?_
    refine fl_Tq.stp (pc' := 124) (lv' := [some (.inr (.inr (.inl (1, 1)))), some (.inl a), some (.inl b), some (.inl c), some (.inl z), some (.inl y), some (.inl (Int32.ofNat C))]) (st' := [.inl (b - a)]) (m' := (f, l)) rfl rfl (fl_bo rfl) rfl ?_
    exact fl_Tq.ret rfl rfl rfl (k3 h1 h2 h3 h4)
  refine fl_Tq.swD rfl (fl_bo rfl) (by omega) rfl ?_
  refine fl_Tq.stp (pc' := 128) (lv' := [some (.inr (.inr (.inl (1, 1)))), some (.inl a), some (.inl b), some (.inl c), some (.inl z), some (.inl y), some (.inl (Int32.ofNat C))]) (st' := [.inl (-1000000000 : Int32)]) (m' := (f, l)) rfl rfl (fl_bo rfl) rfl ?_
  exact fl_Tq.ret rfl rfl rfl (k4 h1 h2 h3 h4)
theorem x_tm_D {L : Nat} {xs : Nat → Int32} {f : t2_F} {l : t2_L} {Q : Option fl_V → fl_M → Prop} {a b c z y x : Int32} {C : Nat}  (k : Q (some (.inl x)) (f, l)) : fl_Tq (pw_P L xs) 74 120 [some (.inr (.inr (.inl (1, 1)))), some (.inl a), some (.inl b), some (.inl c), some (.inl z), some (.inl y), some (.inl (Int32.ofNat C))] [.inl x] (f, l) Q := by
  exact fl_Tq.ret rfl rfl rfl k
theorem x_sp_A {L : Nat} {xs : Nat → Int32} {f : t2_F} {l : t2_L} {Q : Option fl_V → fl_M → Prop} {a b : Int32}  (k : fl_Tq (pw_P L xs) 41 10 [some (.inr (.inr (.inl (1, 1)))), some (.inl a), some (.inl b), some (.inl (1000 : Int32)), some (.inl (0 : Int32)), some (.inl a)] [] (f, l) Q) : fl_Tq (pw_P L xs) 41 0 [some (.inr (.inr (.inl (1, 1)))), some (.inl a), some (.inl b), none, none, none] [] (f, l) Q := by
  refine fl_Tq.cS (c := (1000 : Int32)) rfl (by decide +kernel) (fl_bo rfl) ?_
  refine fl_Tq.stp (pc' := 4) (lv' := [some (.inr (.inr (.inl (1, 1)))), some (.inl a), some (.inl b), some (.inl (1000 : Int32)), none, none]) (st' := []) (m' := (f, l)) rfl rfl (fl_bo rfl) rfl ?_
  refine fl_Tq.cI (c := (0 : Int32)) rfl (by decide +kernel) (fl_bo rfl) ?_
  refine fl_Tq.stp (pc' := 7) (lv' := [some (.inr (.inr (.inl (1, 1)))), some (.inl a), some (.inl b), some (.inl (1000 : Int32)), some (.inl (0 : Int32)), none]) (st' := []) (m' := (f, l)) rfl rfl (fl_bo rfl) rfl ?_
  refine fl_Tq.stp (pc' := 8) (lv' := [some (.inr (.inr (.inl (1, 1)))), some (.inl a), some (.inl b), some (.inl (1000 : Int32)), some (.inl (0 : Int32)), none]) (st' := [.inl a]) (m' := (f, l)) rfl rfl (fl_bo rfl) rfl ?_
  refine fl_Tq.stp (pc' := 10) (lv' := [some (.inr (.inr (.inl (1, 1)))), some (.inl a), some (.inl b), some (.inl (1000 : Int32)), some (.inl (0 : Int32)), some (.inl a)]) (st' := []) (m' := (f, l)) rfl rfl (fl_bo rfl) rfl ?_
  exact k
theorem x_sp_B {L : Nat} {xs : Nat → Int32} {f : t2_F} {l : t2_L} {Q : Option fl_V → fl_M → Prop} {a b z y : Int32} {C : Nat} (hC : C < 16) (hkk : (Int32.ofNat C).toInt < b.toInt) (k : fl_Tq (pw_P L xs) 41 10 [some (.inr (.inr (.inl (1, 1)))), some (.inl a), some (.inl b), some (.inl (t2_min_v z (f (18 + 4 * C) 3))), some (.inl (t2_max_v y (f (18 + 4 * C) 3))), some (.inl ((Int32.ofNat C) + (1 : Int32)))] [] (f, l) Q) : fl_Tq (pw_P L xs) 41 10 [some (.inr (.inr (.inl (1, 1)))), some (.inl a), some (.inl b), some (.inl z), some (.inl y), some (.inl (Int32.ofNat C))] [] (f, l) Q := by
  refine fl_Tq.stp (pc' := 12) (lv' := [some (.inr (.inr (.inl (1, 1)))), some (.inl a), some (.inl b), some (.inl z), some (.inl y), some (.inl (Int32.ofNat C))]) (st' := [.inl (Int32.ofNat C)]) (m' := (f, l)) rfl rfl (fl_bo rfl) rfl ?_
  refine fl_Tq.stp (pc' := 13) (lv' := [some (.inr (.inr (.inl (1, 1)))), some (.inl a), some (.inl b), some (.inl z), some (.inl y), some (.inl (Int32.ofNat C))]) (st' := [.inl b, .inl (Int32.ofNat C)]) (m' := (f, l)) rfl rfl (fl_bo rfl) rfl ?_
  refine fl_Tq.jf rfl (fl_bo rfl) (c2_ge_f hkk) rfl ?_
  refine fl_Tq.stp (pc' := 17) (lv' := [some (.inr (.inr (.inl (1, 1)))), some (.inl a), some (.inl b), some (.inl z), some (.inl y), some (.inl (Int32.ofNat C))]) (st' := [.inl z]) (m' := (f, l)) rfl rfl (fl_bo rfl) rfl ?_
  refine fl_Tq.stp (pc' := 18) (lv' := [some (.inr (.inr (.inl (1, 1)))), some (.inl a), some (.inl b), some (.inl z), some (.inl y), some (.inl (Int32.ofNat C))]) (st' := [.inr (.inr (.inl (1, 1))), .inl z]) (m' := (f, l)) rfl rfl (fl_bo rfl) rfl ?_
  refine fl_Tq.stp (pc' := 21) (lv' := [some (.inr (.inr (.inl (1, 1)))), some (.inl a), some (.inl b), some (.inl z), some (.inl y), some (.inl (Int32.ofNat C))]) (st' := [.inr (.inr (.inl (2, 2))), .inl z]) (m' := (f, l)) rfl rfl (fl_bo rfl) rfl ?_
  refine fl_Tq.stp (pc' := 23) (lv' := [some (.inr (.inr (.inl (1, 1)))), some (.inl a), some (.inl b), some (.inl z), some (.inl y), some (.inl (Int32.ofNat C))]) (st' := [.inl (Int32.ofNat C), .inr (.inr (.inl (2, 2))), .inl z]) (m' := (f, l)) rfl rfl (fl_bo rfl) rfl ?_
  refine fl_Tq.qld (p := 2) (τ := 2) (n := 16) (t := 18) (b := 16) (d := 3) (k := C) rfl (fl_bo rfl) rfl (at_ofN (by omega)) (by omega) ?_
  show fl_Tq _ 41 24 [some (.inr (.inr (.inl (1, 1)))), some (.inl a), some (.inl b), some (.inl z), some (.inl y), some (.inl (Int32.ofNat C))] [.inr (.inr (.inl (18, 18 + 4 * C))), .inl z] (f, l) _
  refine fl_Tq.gfV (k := 3) (v := f (18 + 4 * C) 3) rfl (fl_oks_ok ⟨(t2_kc0 (by omega)), True.intro, True.intro⟩) rfl rfl ?_
  refine fl_Tq.cal rfl rfl (fl_bo rfl) rfl ?_
  refine t2_min_q  ?_
  show fl_Tq _ 41 30 [some (.inr (.inr (.inl (1, 1)))), some (.inl a), some (.inl b), some (.inl z), some (.inl y), some (.inl (Int32.ofNat C))] [.inl (t2_min_v z (f (18 + 4 * C) 3))] (f, l) _
  refine fl_Tq.stp (pc' := 31) (lv' := [some (.inr (.inr (.inl (1, 1)))), some (.inl a), some (.inl b), some (.inl (t2_min_v z (f (18 + 4 * C) 3))), some (.inl y), some (.inl (Int32.ofNat C))]) (st' := []) (m' := (f, l)) rfl rfl (fl_bo rfl) rfl ?_
  refine fl_Tq.stp (pc' := 33) (lv' := [some (.inr (.inr (.inl (1, 1)))), some (.inl a), some (.inl b), some (.inl (t2_min_v z (f (18 + 4 * C) 3))), some (.inl y), some (.inl (Int32.ofNat C))]) (st' := [.inl y]) (m' := (f, l)) rfl rfl (fl_bo rfl) rfl ?_
  refine fl_Tq.stp (pc' := 34) (lv' := [some (.inr (.inr (.inl (1, 1)))), some (.inl a), some (.inl b), some (.inl (t2_min_v z (f (18 + 4 * C) 3))), some (.inl y), some (.inl (Int32.ofNat C))]) (st' := [.inr (.inr (.inl (1, 1))), .inl y]) (m' := (f, l)) rfl rfl (fl_bo rfl) rfl ?_
  refine fl_Tq.stp (pc' := 37) (lv' := [some (.inr (.inr (.inl (1, 1)))), some (.inl a), some (.inl b), some (.inl (t2_min_v z (f (18 + 4 * C) 3))), some (.inl y), some (.inl (Int32.ofNat C))]) (st' := [.inr (.inr (.inl (2, 2))), .inl y]) (m' := (f, l)) rfl rfl (fl_bo rfl) rfl ?_
  refine fl_Tq.stp (pc' := 39) (lv' := [some (.inr (.inr (.inl (1, 1)))), some (.inl a), some (.inl b), some (.inl (t2_min_v z (f (18 + 4 * C) 3))), some (.inl y), some (.inl (Int32.ofNat C))]) (st' := [.inl (Int32.ofNat C), .inr (.inr (.inl (2, 2))), .inl y]) (m' := (f, l)) rfl rfl (fl_bo rfl) rfl ?_
  refine fl_Tq.qld (p := 2) (τ := 2) (n := 16) (t := 18) (b := 16) (d := 3) (k := C) rfl (fl_bo rfl) rfl (at_ofN (by omega)) (by omega) ?_
  show fl_Tq _ 41 40 [some (.inr (.inr (.inl (1, 1)))), some (.inl a), some (.inl b), some (.inl (t2_min_v z (f (18 + 4 * C) 3))), some (.inl y), some (.inl (Int32.ofNat C))] [.inr (.inr (.inl (18, 18 + 4 * C))), .inl y] (f, l) _
  refine fl_Tq.gfV (k := 3) (v := f (18 + 4 * C) 3) rfl (fl_oks_ok ⟨(t2_kc0 (by omega)), True.intro, True.intro⟩) rfl rfl ?_
  refine fl_Tq.cal rfl rfl (fl_bo rfl) rfl ?_
  refine t2_max_q  ?_
  show fl_Tq _ 41 46 [some (.inr (.inr (.inl (1, 1)))), some (.inl a), some (.inl b), some (.inl (t2_min_v z (f (18 + 4 * C) 3))), some (.inl y), some (.inl (Int32.ofNat C))] [.inl (t2_max_v y (f (18 + 4 * C) 3))] (f, l) _
  refine fl_Tq.stp (pc' := 48) (lv' := [some (.inr (.inr (.inl (1, 1)))), some (.inl a), some (.inl b), some (.inl (t2_min_v z (f (18 + 4 * C) 3))), some (.inl (t2_max_v y (f (18 + 4 * C) 3))), some (.inl (Int32.ofNat C))]) (st' := []) (m' := (f, l)) rfl rfl (fl_bo rfl) rfl ?_
  refine fl_Tq.stp (pc' := 51) (lv' := [some (.inr (.inr (.inl (1, 1)))), some (.inl a), some (.inl b), some (.inl (t2_min_v z (f (18 + 4 * C) 3))), some (.inl (t2_max_v y (f (18 + 4 * C) 3))), some (.inl ((Int32.ofNat C) + (1 : Int32)))]) (st' := []) (m' := (f, l)) rfl rfl (fl_bo rfl) rfl ?_
  refine fl_Tq.stp (pc' := 10) (lv' := [some (.inr (.inr (.inl (1, 1)))), some (.inl a), some (.inl b), some (.inl (t2_min_v z (f (18 + 4 * C) 3))), some (.inl (t2_max_v y (f (18 + 4 * C) 3))), some (.inl ((Int32.ofNat C) + (1 : Int32)))]) (st' := []) (m' := (f, l)) rfl rfl (fl_bo rfl) rfl ?_
  exact k
theorem x_sp_C {L : Nat} {xs : Nat → Int32} {f : t2_F} {l : t2_L} {Q : Option fl_V → fl_M → Prop} {a b z y : Int32} {C : Nat} (hkk : ¬ ((Int32.ofNat C).toInt < b.toInt)) (k : Q (some (.inl (y - z))) (f, l)) : fl_Tq (pw_P L xs) 41 10 [some (.inr (.inr (.inl (1, 1)))), some (.inl a), some (.inl b), some (.inl z), some (.inl y), some (.inl (Int32.ofNat C))] [] (f, l) Q := by
  refine fl_Tq.stp (pc' := 12) (lv' := [some (.inr (.inr (.inl (1, 1)))), some (.inl a), some (.inl b), some (.inl z), some (.inl y), some (.inl (Int32.ofNat C))]) (st' := [.inl (Int32.ofNat C)]) (m' := (f, l)) rfl rfl (fl_bo rfl) rfl ?_
  refine fl_Tq.stp (pc' := 13) (lv' := [some (.inr (.inr (.inl (1, 1)))), some (.inl a), some (.inl b), some (.inl z), some (.inl y), some (.inl (Int32.ofNat C))]) (st' := [.inl b, .inl (Int32.ofNat C)]) (m' := (f, l)) rfl rfl (fl_bo rfl) rfl ?_
  refine fl_Tq.jt rfl (fl_bo rfl) (c2_ge_t hkk) rfl ?_
  refine fl_Tq.stp (pc' := 56) (lv' := [some (.inr (.inr (.inl (1, 1)))), some (.inl a), some (.inl b), some (.inl z), some (.inl y), some (.inl (Int32.ofNat C))]) (st' := [.inl y]) (m' := (f, l)) rfl rfl (fl_bo rfl) rfl ?_
  refine fl_Tq.stp (pc' := 57) (lv' := [some (.inr (.inr (.inl (1, 1)))), some (.inl a), some (.inl b), some (.inl z), some (.inl y), some (.inl (Int32.ofNat C))]) (st' := [.inl z, .inl y]) (m' := (f, l)) rfl rfl (fl_bo rfl) rfl ?_
  refine fl_Tq.stp (pc' := 58) (lv' := [some (.inr (.inr (.inl (1, 1)))), some (.inl a), some (.inl b), some (.inl z), some (.inl y), some (.inl (Int32.ofNat C))]) (st' := [.inl (y - z)]) (m' := (f, l)) rfl rfl (fl_bo rfl) rfl ?_
  exact fl_Tq.ret rfl rfl rfl k
theorem y_mod_A {L : Nat} {xs : Nat → Int32} {f : t2_F} {l : t2_L} {Q : Option fl_V → fl_M → Prop} {a b : Int32}  (k : ((r_isIn_v a (0 : Int32) (3 : Int32)).toInt = 0) → Q (some (.inl (-1000000000 : Int32))) (f, l)) (k1 : (¬ ((r_isIn_v a (0 : Int32) (3 : Int32)).toInt = 0)) → (((4 : Int32) * a).toInt < (f 280 2).toInt) → ((r_isIn_v b (0 : Int32) (3 : Int32)).toInt = 0) → Q (some (.inl (-1000000000 : Int32))) (f, l)) (k2 : (¬ ((r_isIn_v a (0 : Int32) (3 : Int32)).toInt = 0)) → (((4 : Int32) * a).toInt < (f 280 2).toInt) → (¬ ((r_isIn_v b (0 : Int32) (3 : Int32)).toInt = 0)) → fl_Tq (pw_P L xs) 273 56 [some (.inr (.inr (.inl (76, 277)))), some (.inl a), some (.inl b), some (.inl (0 : Int32)), some (.inl (-2000000000 : Int32)), some (.inl (0 : Int32)), some (.inl (1000 : Int32)), some (.inl (0 : Int32)), some (.inl ((4 : Int32) * a))] [] (f, l) Q) (k3 : (¬ ((r_isIn_v a (0 : Int32) (3 : Int32)).toInt = 0)) → (¬ (((4 : Int32) * a).toInt < (f 280 2).toInt)) → Q (some (.inl (-1000000000 : Int32))) (f, l)) : fl_Tq (pw_P L xs) 273 0 [some (.inr (.inr (.inl (76, 277)))), some (.inl a), some (.inl b), none, none, none, none, none, none] [] (f, l) Q := by
  refine fl_Tq.stp (pc' := 1) (lv' := [some (.inr (.inr (.inl (76, 277)))), some (.inl a), some (.inl b), none, none, none, none, none, none]) (st' := [.inl a]) (m' := (f, l)) rfl rfl (fl_bo rfl) rfl ?_
  refine fl_Tq.cI (c := (0 : Int32)) rfl (by decide +kernel) (fl_bo rfl) ?_
  refine fl_Tq.cI (c := (3 : Int32)) rfl (by decide +kernel) (fl_bo rfl) ?_
  refine fl_Tq.cal rfl rfl (fl_bo rfl) rfl ?_
  refine r_isIn_q  ?_
  show fl_Tq _ 273 6 [some (.inr (.inr (.inl (76, 277)))), some (.inl a), some (.inl b), none, none, none, none, none, none] [.inl (r_isIn_v a (0 : Int32) (3 : Int32))] (f, l) _
  by_cases h1 : (r_isIn_v a (0 : Int32) (3 : Int32)).toInt = 0
  · refine fl_Tq.zt rfl (fl_bo rfl) (c1_eq_t h1) rfl ?_
    refine fl_Tq.stp (pc' := 33) (lv' := [some (.inr (.inr (.inl (76, 277)))), some (.inl a), some (.inl b), none, none, none, none, none, none]) (st' := [.inl (-1000000000 : Int32)]) (m' := (f, l)) rfl rfl (fl_bo rfl) rfl ?_
    exact fl_Tq.ret rfl rfl rfl (k h1)
  · refine fl_Tq.zf rfl (fl_bo rfl) (c1_eq_f h1) rfl ?_
    refine fl_Tq.cI (c := (4 : Int32)) rfl (by decide +kernel) (fl_bo rfl) ?_
    refine fl_Tq.stp (pc' := 11) (lv' := [some (.inr (.inr (.inl (76, 277)))), some (.inl a), some (.inl b), none, none, none, none, none, none]) (st' := [.inl a, .inl (4 : Int32)]) (m' := (f, l)) rfl rfl (fl_bo rfl) rfl ?_
    refine fl_Tq.stp (pc' := 12) (lv' := [some (.inr (.inr (.inl (76, 277)))), some (.inl a), some (.inl b), none, none, none, none, none, none]) (st' := [.inl ((4 : Int32) * a)]) (m' := (f, l)) rfl rfl (fl_bo rfl) rfl ?_
    refine fl_Tq.stp (pc' := 13) (lv' := [some (.inr (.inr (.inl (76, 277)))), some (.inl a), some (.inl b), none, none, none, none, none, none]) (st' := [.inr (.inr (.inl (76, 277))), .inl ((4 : Int32) * a)]) (m' := (f, l)) rfl rfl (fl_bo rfl) rfl ?_
    refine fl_Tq.stp (pc' := 16) (lv' := [some (.inr (.inr (.inl (76, 277)))), some (.inl a), some (.inl b), none, none, none, none, none, none]) (st' := [.inr (.inr (.inl (79, 280))), .inl ((4 : Int32) * a)]) (m' := (f, l)) rfl rfl (fl_bo rfl) rfl ?_
    refine fl_Tq.cI (c := (2 : Int32)) rfl (by decide +kernel) (fl_bo rfl) ?_
    refine fl_Tq.ldV (p := 280) (τ := 79) (n := 29780) (z := (0, 0, 0)) (k := 2) (v := f 280 2) rfl (fl_bo rfl) rfl (by decide +kernel) (by decide) rfl ?_
    by_cases h2 : ((4 : Int32) * a).toInt < (f 280 2).toInt
    · refine fl_Tq.jf rfl (fl_bo rfl) (c2_ge_f h2) rfl ?_
      refine fl_Tq.stp (pc' := 22) (lv' := [some (.inr (.inr (.inl (76, 277)))), some (.inl a), some (.inl b), none, none, none, none, none, none]) (st' := [.inl b]) (m' := (f, l)) rfl rfl (fl_bo rfl) rfl ?_
      refine fl_Tq.cI (c := (0 : Int32)) rfl (by decide +kernel) (fl_bo rfl) ?_
      refine fl_Tq.cI (c := (3 : Int32)) rfl (by decide +kernel) (fl_bo rfl) ?_
      refine fl_Tq.cal rfl rfl (fl_bo rfl) rfl ?_
      refine r_isIn_q  ?_
      show fl_Tq _ 273 27 [some (.inr (.inr (.inl (76, 277)))), some (.inl a), some (.inl b), none, none, none, none, none, none] [.inl (r_isIn_v b (0 : Int32) (3 : Int32))] (f, l) _
      by_cases h3 : (r_isIn_v b (0 : Int32) (3 : Int32)).toInt = 0
      · refine fl_Tq.zf rfl (fl_bo rfl) (c1_ne_f h3) rfl ?_
        refine fl_Tq.stp (pc' := 33) (lv' := [some (.inr (.inr (.inl (76, 277)))), some (.inl a), some (.inl b), none, none, none, none, none, none]) (st' := [.inl (-1000000000 : Int32)]) (m' := (f, l)) rfl rfl (fl_bo rfl) rfl ?_
        exact fl_Tq.ret rfl rfl rfl (k1 h1 h2 h3)
      · refine fl_Tq.zt rfl (fl_bo rfl) (c1_ne_t h3) rfl ?_
        refine fl_Tq.cI (c := (0 : Int32)) rfl (by decide +kernel) (fl_bo rfl) ?_
        refine fl_Tq.stp (pc' := 36) (lv' := [some (.inr (.inr (.inl (76, 277)))), some (.inl a), some (.inl b), some (.inl (0 : Int32)), none, none, none, none, none]) (st' := []) (m' := (f, l)) rfl rfl (fl_bo rfl) rfl ?_
        refine fl_Tq.stp (pc' := 38) (lv' := [some (.inr (.inr (.inl (76, 277)))), some (.inl a), some (.inl b), some (.inl (0 : Int32)), none, none, none, none, none]) (st' := [.inl (-2000000000 : Int32)]) (m' := (f, l)) rfl rfl (fl_bo rfl) rfl ?_
        refine fl_Tq.stp (pc' := 40) (lv' := [some (.inr (.inr (.inl (76, 277)))), some (.inl a), some (.inl b), some (.inl (0 : Int32)), some (.inl (-2000000000 : Int32)), none, none, none, none]) (st' := []) (m' := (f, l)) rfl rfl (fl_bo rfl) rfl ?_
        refine fl_Tq.cI (c := (0 : Int32)) rfl (by decide +kernel) (fl_bo rfl) ?_
        refine fl_Tq.stp (pc' := 43) (lv' := [some (.inr (.inr (.inl (76, 277)))), some (.inl a), some (.inl b), some (.inl (0 : Int32)), some (.inl (-2000000000 : Int32)), some (.inl (0 : Int32)), none, none, none]) (st' := []) (m' := (f, l)) rfl rfl (fl_bo rfl) rfl ?_
        refine fl_Tq.cS (c := (1000 : Int32)) rfl (by decide +kernel) (fl_bo rfl) ?_
        refine fl_Tq.stp (pc' := 48) (lv' := [some (.inr (.inr (.inl (76, 277)))), some (.inl a), some (.inl b), some (.inl (0 : Int32)), some (.inl (-2000000000 : Int32)), some (.inl (0 : Int32)), some (.inl (1000 : Int32)), none, none]) (st' := []) (m' := (f, l)) rfl rfl (fl_bo rfl) rfl ?_
        refine fl_Tq.cI (c := (0 : Int32)) rfl (by decide +kernel) (fl_bo rfl) ?_
        refine fl_Tq.stp (pc' := 51) (lv' := [some (.inr (.inr (.inl (76, 277)))), some (.inl a), some (.inl b), some (.inl (0 : Int32)), some (.inl (-2000000000 : Int32)), some (.inl (0 : Int32)), some (.inl (1000 : Int32)), some (.inl (0 : Int32)), none]) (st' := []) (m' := (f, l)) rfl rfl (fl_bo rfl) rfl ?_
        refine fl_Tq.cI (c := (4 : Int32)) rfl (by decide +kernel) (fl_bo rfl) ?_
        refine fl_Tq.stp (pc' := 53) (lv' := [some (.inr (.inr (.inl (76, 277)))), some (.inl a), some (.inl b), some (.inl (0 : Int32)), some (.inl (-2000000000 : Int32)), some (.inl (0 : Int32)), some (.inl (1000 : Int32)), some (.inl (0 : Int32)), none]) (st' := [.inl a, .inl (4 : Int32)]) (m' := (f, l)) rfl rfl (fl_bo rfl) rfl ?_
        refine fl_Tq.stp (pc' := 54) (lv' := [some (.inr (.inr (.inl (76, 277)))), some (.inl a), some (.inl b), some (.inl (0 : Int32)), some (.inl (-2000000000 : Int32)), some (.inl (0 : Int32)), some (.inl (1000 : Int32)), some (.inl (0 : Int32)), none]) (st' := [.inl ((4 : Int32) * a)]) (m' := (f, l)) rfl rfl (fl_bo rfl) rfl ?_
        refine fl_Tq.stp (pc' := 56) (lv' := [some (.inr (.inr (.inl (76, 277)))), some (.inl a), some (.inl b), some (.inl (0 : Int32)), some (.inl (-2000000000 : Int32)), some (.inl (0 : Int32)), some (.inl (1000 : Int32)), some (.inl (0 : Int32)), some (.inl ((4 : Int32) * a))]) (st' := []) (m' := (f, l)) rfl rfl (fl_bo rfl) rfl ?_
        exact k2 h1 h2 h3
    · refine fl_Tq.jt rfl (fl_bo rfl) (c2_ge_t h2) rfl ?_
      refine fl_Tq.stp (pc' := 33) (lv' := [some (.inr (.inr (.inl (76, 277)))), some (.inl a), some (.inl b), none, none, none, none, none, none]) (st' := [.inl (-1000000000 : Int32)]) (m' := (f, l)) rfl rfl (fl_bo rfl) rfl ?_
      exact fl_Tq.ret rfl rfl rfl (k3 h1 h2)
theorem y_mod_B {L : Nat} {xs : Nat → Int32} {f : t2_F} {l : t2_L} {Q : Option fl_V → fl_M → Prop} {a b v u t s r : Int32} {C : Nat} (hC : C < 16) (hCn : (C : Int) < (f 280 2).toInt) (hk1 : (Int32.ofNat C).toInt < (((4 : Int32) * a) + (4 : Int32)).toInt) (hk2 : (Int32.ofNat C).toInt < (f 280 2).toInt) (hr : t2_RS f) (hk : t2_ck f C) (k : fl_Tq (pw_P L xs) 273 56 [some (.inr (.inr (.inl (76, 277)))), some (.inl a), some (.inl b), some (.inl (v + (r_voltsOf_v f (Int32.ofNat C) C))), some (.inl (if u.toInt < (f 280 (444 + 61 * C + 3)).toInt then f 280 (444 + 61 * C + 3) else u)), some (.inl (if t.toInt < (r_partOf_v f (Int32.ofNat C) C).toInt then r_partOf_v f (Int32.ofNat C) C else t)), some (.inl (r_lesser_v s (r_partOf_v f (Int32.ofNat C) C))), some (.inl (r + (1 : Int32))), some (.inl ((Int32.ofNat C) + (1 : Int32)))] [] (f, l) Q) : fl_Tq (pw_P L xs) 273 56 [some (.inr (.inr (.inl (76, 277)))), some (.inl a), some (.inl b), some (.inl v), some (.inl u), some (.inl t), some (.inl s), some (.inl r), some (.inl (Int32.ofNat C))] [] (f, l) Q := by
  refine fl_Tq.stp (pc' := 58) (lv' := [some (.inr (.inr (.inl (76, 277)))), some (.inl a), some (.inl b), some (.inl v), some (.inl u), some (.inl t), some (.inl s), some (.inl r), some (.inl (Int32.ofNat C))]) (st' := [.inl (Int32.ofNat C)]) (m' := (f, l)) rfl rfl (fl_bo rfl) rfl ?_
  refine fl_Tq.cI (c := (4 : Int32)) rfl (by decide +kernel) (fl_bo rfl) ?_
  refine fl_Tq.stp (pc' := 60) (lv' := [some (.inr (.inr (.inl (76, 277)))), some (.inl a), some (.inl b), some (.inl v), some (.inl u), some (.inl t), some (.inl s), some (.inl r), some (.inl (Int32.ofNat C))]) (st' := [.inl a, .inl (4 : Int32), .inl (Int32.ofNat C)]) (m' := (f, l)) rfl rfl (fl_bo rfl) rfl ?_
  refine fl_Tq.stp (pc' := 61) (lv' := [some (.inr (.inr (.inl (76, 277)))), some (.inl a), some (.inl b), some (.inl v), some (.inl u), some (.inl t), some (.inl s), some (.inl r), some (.inl (Int32.ofNat C))]) (st' := [.inl ((4 : Int32) * a), .inl (Int32.ofNat C)]) (m' := (f, l)) rfl rfl (fl_bo rfl) rfl ?_
  refine fl_Tq.cI (c := (4 : Int32)) rfl (by decide +kernel) (fl_bo rfl) ?_
  refine fl_Tq.stp (pc' := 63) (lv' := [some (.inr (.inr (.inl (76, 277)))), some (.inl a), some (.inl b), some (.inl v), some (.inl u), some (.inl t), some (.inl s), some (.inl r), some (.inl (Int32.ofNat C))]) (st' := [.inl (((4 : Int32) * a) + (4 : Int32)), .inl (Int32.ofNat C)]) (m' := (f, l)) rfl rfl (fl_bo rfl) rfl ?_
  refine fl_Tq.jf rfl (fl_bo rfl) (c2_ge_f hk1) rfl ?_
  refine fl_Tq.stp (pc' := 68) (lv' := [some (.inr (.inr (.inl (76, 277)))), some (.inl a), some (.inl b), some (.inl v), some (.inl u), some (.inl t), some (.inl s), some (.inl r), some (.inl (Int32.ofNat C))]) (st' := [.inl (Int32.ofNat C)]) (m' := (f, l)) rfl rfl (fl_bo rfl) rfl ?_
  refine fl_Tq.stp (pc' := 69) (lv' := [some (.inr (.inr (.inl (76, 277)))), some (.inl a), some (.inl b), some (.inl v), some (.inl u), some (.inl t), some (.inl s), some (.inl r), some (.inl (Int32.ofNat C))]) (st' := [.inr (.inr (.inl (76, 277))), .inl (Int32.ofNat C)]) (m' := (f, l)) rfl rfl (fl_bo rfl) rfl ?_
  refine fl_Tq.stp (pc' := 72) (lv' := [some (.inr (.inr (.inl (76, 277)))), some (.inl a), some (.inl b), some (.inl v), some (.inl u), some (.inl t), some (.inl s), some (.inl r), some (.inl (Int32.ofNat C))]) (st' := [.inr (.inr (.inl (79, 280))), .inl (Int32.ofNat C)]) (m' := (f, l)) rfl rfl (fl_bo rfl) rfl ?_
  refine fl_Tq.cI (c := (2 : Int32)) rfl (by decide +kernel) (fl_bo rfl) ?_
  refine fl_Tq.ldV (p := 280) (τ := 79) (n := 29780) (z := (0, 0, 0)) (k := 2) (v := f 280 2) rfl (fl_bo rfl) rfl (by decide +kernel) (by decide) rfl ?_
  refine fl_Tq.jf rfl (fl_bo rfl) (c2_ge_f hk2) rfl ?_
  refine fl_Tq.stp (pc' := 78) (lv' := [some (.inr (.inr (.inl (76, 277)))), some (.inl a), some (.inl b), some (.inl v), some (.inl u), some (.inl t), some (.inl s), some (.inl r), some (.inl (Int32.ofNat C))]) (st' := [.inl v]) (m' := (f, l)) rfl rfl (fl_bo rfl) rfl ?_
  refine fl_Tq.stp (pc' := 79) (lv' := [some (.inr (.inr (.inl (76, 277)))), some (.inl a), some (.inl b), some (.inl v), some (.inl u), some (.inl t), some (.inl s), some (.inl r), some (.inl (Int32.ofNat C))]) (st' := [.inr (.inr (.inl (76, 277))), .inl v]) (m' := (f, l)) rfl rfl (fl_bo rfl) rfl ?_
  refine fl_Tq.stp (pc' := 81) (lv' := [some (.inr (.inr (.inl (76, 277)))), some (.inl a), some (.inl b), some (.inl v), some (.inl u), some (.inl t), some (.inl s), some (.inl r), some (.inl (Int32.ofNat C))]) (st' := [.inl (Int32.ofNat C), .inr (.inr (.inl (76, 277))), .inl v]) (m' := (f, l)) rfl rfl (fl_bo rfl) rfl ?_
  refine fl_Tq.cal rfl rfl (fl_bo rfl) rfl ?_
  refine r_voltsOf_q (at_ofN (by omega)) (by omega) hr hk ?_
  show fl_Tq _ 273 84 [some (.inr (.inr (.inl (76, 277)))), some (.inl a), some (.inl b), some (.inl v), some (.inl u), some (.inl t), some (.inl s), some (.inl r), some (.inl (Int32.ofNat C))] [.inl (r_voltsOf_v f (Int32.ofNat C) C), .inl v] (f, l) _
  refine fl_Tq.stp (pc' := 85) (lv' := [some (.inr (.inr (.inl (76, 277)))), some (.inl a), some (.inl b), some (.inl v), some (.inl u), some (.inl t), some (.inl s), some (.inl r), some (.inl (Int32.ofNat C))]) (st' := [.inl (v + (r_voltsOf_v f (Int32.ofNat C) C))]) (m' := (f, l)) rfl rfl (fl_bo rfl) rfl ?_
  refine fl_Tq.stp (pc' := 86) (lv' := [some (.inr (.inr (.inl (76, 277)))), some (.inl a), some (.inl b), some (.inl (v + (r_voltsOf_v f (Int32.ofNat C) C))), some (.inl u), some (.inl t), some (.inl s), some (.inl r), some (.inl (Int32.ofNat C))]) (st' := []) (m' := (f, l)) rfl rfl (fl_bo rfl) rfl ?_
  refine fl_Tq.stp (pc' := 87) (lv' := [some (.inr (.inr (.inl (76, 277)))), some (.inl a), some (.inl b), some (.inl (v + (r_voltsOf_v f (Int32.ofNat C) C))), some (.inl u), some (.inl t), some (.inl s), some (.inl r), some (.inl (Int32.ofNat C))]) (st' := [.inr (.inr (.inl (76, 277)))]) (m' := (f, l)) rfl rfl (fl_bo rfl) rfl ?_
  refine fl_Tq.stp (pc' := 89) (lv' := [some (.inr (.inr (.inl (76, 277)))), some (.inl a), some (.inl b), some (.inl (v + (r_voltsOf_v f (Int32.ofNat C) C))), some (.inl u), some (.inl t), some (.inl s), some (.inl r), some (.inl (Int32.ofNat C))]) (st' := [.inl (Int32.ofNat C), .inr (.inr (.inl (76, 277)))]) (m' := (f, l)) rfl rfl (fl_bo rfl) rfl ?_
  refine fl_Tq.cI (c := (3 : Int32)) rfl (by decide +kernel) (fl_bo rfl) ?_
  refine fl_Tq.cal rfl rfl (fl_bo rfl) rfl ?_
  refine t2_get (C := C) (W := 3) (v := f 280 (444 + 61 * C + 3)) (at_ofN (by omega)) (by decide +kernel) (by omega) (by decide) rfl ?_
  show fl_Tq _ 273 93 [some (.inr (.inr (.inl (76, 277)))), some (.inl a), some (.inl b), some (.inl (v + (r_voltsOf_v f (Int32.ofNat C) C))), some (.inl u), some (.inl t), some (.inl s), some (.inl r), some (.inl (Int32.ofNat C))] [.inl (f 280 (444 + 61 * C + 3))] (f, l) _
  refine fl_Tq.stp (pc' := 95) (lv' := [some (.inr (.inr (.inl (76, 277)))), some (.inl a), some (.inl b), some (.inl (v + (r_voltsOf_v f (Int32.ofNat C) C))), some (.inl u), some (.inl t), some (.inl s), some (.inl r), some (.inl (Int32.ofNat C))]) (st' := [.inl u, .inl (f 280 (444 + 61 * C + 3))]) (m' := (f, l)) rfl rfl (fl_bo rfl) rfl ?_
  have hj191 : fl_Tq (pw_P L xs) 273 110 [some (.inr (.inr (.inl (76, 277)))), some (.inl a), some (.inl b), some (.inl (v + (r_voltsOf_v f (Int32.ofNat C) C))), some (.inl u), some (.inl t), some (.inl s), some (.inl r), some (.inl (Int32.ofNat C))] [.inl (if u.toInt < (f 280 (444 + 61 * C + 3)).toInt then f 280 (444 + 61 * C + 3) else u)] (f, l) Q → fl_Tq (pw_P L xs) 273 95 [some (.inr (.inr (.inl (76, 277)))), some (.inl a), some (.inl b), some (.inl (v + (r_voltsOf_v f (Int32.ofNat C) C))), some (.inl u), some (.inl t), some (.inl s), some (.inl r), some (.inl (Int32.ofNat C))] [.inl u, .inl (f 280 (444 + 61 * C + 3))] (f, l) Q := by
    intro hJ
    by_cases h1 : u.toInt < (f 280 (444 + 61 * C + 3)).toInt
    · refine fl_Tq.jf rfl (fl_bo rfl) (c2_le_f h1) rfl ?_
      refine fl_Tq.stp (pc' := 99) (lv' := [some (.inr (.inr (.inl (76, 277)))), some (.inl a), some (.inl b), some (.inl (v + (r_voltsOf_v f (Int32.ofNat C) C))), some (.inl u), some (.inl t), some (.inl s), some (.inl r), some (.inl (Int32.ofNat C))]) (st' := [.inr (.inr (.inl (76, 277)))]) (m' := (f, l)) rfl rfl (fl_bo rfl) rfl ?_
      refine fl_Tq.stp (pc' := 101) (lv' := [some (.inr (.inr (.inl (76, 277)))), some (.inl a), some (.inl b), some (.inl (v + (r_voltsOf_v f (Int32.ofNat C) C))), some (.inl u), some (.inl t), some (.inl s), some (.inl r), some (.inl (Int32.ofNat C))]) (st' := [.inl (Int32.ofNat C), .inr (.inr (.inl (76, 277)))]) (m' := (f, l)) rfl rfl (fl_bo rfl) rfl ?_
      refine fl_Tq.cI (c := (3 : Int32)) rfl (by decide +kernel) (fl_bo rfl) ?_
      refine fl_Tq.cal rfl rfl (fl_bo rfl) rfl ?_
      refine t2_get (C := C) (W := 3) (v := f 280 (444 + 61 * C + 3)) (at_ofN (by omega)) (by decide +kernel) (by omega) (by decide) rfl ?_
      show fl_Tq _ 273 105 [some (.inr (.inr (.inl (76, 277)))), some (.inl a), some (.inl b), some (.inl (v + (r_voltsOf_v f (Int32.ofNat C) C))), some (.inl u), some (.inl t), some (.inl s), some (.inl r), some (.inl (Int32.ofNat C))] [.inl (f 280 (444 + 61 * C + 3))] (f, l) _
      refine fl_Tq.stp (pc' := 110) (lv' := [some (.inr (.inr (.inl (76, 277)))), some (.inl a), some (.inl b), some (.inl (v + (r_voltsOf_v f (Int32.ofNat C) C))), some (.inl u), some (.inl t), some (.inl s), some (.inl r), some (.inl (Int32.ofNat C))]) (st' := [.inl (f 280 (444 + 61 * C + 3))]) (m' := (f, l)) rfl rfl (fl_bo rfl) rfl ?_
      have e0 : (if u.toInt < (f 280 (444 + 61 * C + 3)).toInt then f 280 (444 + 61 * C + 3) else u) = f 280 (444 + 61 * C + 3) := by simp only [if_pos h1]
      rw [e0] at hJ
      exact hJ
    · refine fl_Tq.jt rfl (fl_bo rfl) (c2_le_t h1) rfl ?_
      refine fl_Tq.stp (pc' := 110) (lv' := [some (.inr (.inr (.inl (76, 277)))), some (.inl a), some (.inl b), some (.inl (v + (r_voltsOf_v f (Int32.ofNat C) C))), some (.inl u), some (.inl t), some (.inl s), some (.inl r), some (.inl (Int32.ofNat C))]) (st' := [.inl u]) (m' := (f, l)) rfl rfl (fl_bo rfl) rfl ?_
      have e0 : (if u.toInt < (f 280 (444 + 61 * C + 3)).toInt then f 280 (444 + 61 * C + 3) else u) = u := by simp only [if_neg h1]
      rw [e0] at hJ
      exact hJ
  refine hj191 ?_
  show fl_Tq _ 273 110 [some (.inr (.inr (.inl (76, 277)))), some (.inl a), some (.inl b), some (.inl (v + (r_voltsOf_v f (Int32.ofNat C) C))), some (.inl u), some (.inl t), some (.inl s), some (.inl r), some (.inl (Int32.ofNat C))] [.inl (if u.toInt < (f 280 (444 + 61 * C + 3)).toInt then f 280 (444 + 61 * C + 3) else u)] (f, l) _
  refine fl_Tq.stp (pc' := 112) (lv' := [some (.inr (.inr (.inl (76, 277)))), some (.inl a), some (.inl b), some (.inl (v + (r_voltsOf_v f (Int32.ofNat C) C))), some (.inl (if u.toInt < (f 280 (444 + 61 * C + 3)).toInt then f 280 (444 + 61 * C + 3) else u)), some (.inl t), some (.inl s), some (.inl r), some (.inl (Int32.ofNat C))]) (st' := []) (m' := (f, l)) rfl rfl (fl_bo rfl) rfl ?_
  refine fl_Tq.stp (pc' := 113) (lv' := [some (.inr (.inr (.inl (76, 277)))), some (.inl a), some (.inl b), some (.inl (v + (r_voltsOf_v f (Int32.ofNat C) C))), some (.inl (if u.toInt < (f 280 (444 + 61 * C + 3)).toInt then f 280 (444 + 61 * C + 3) else u)), some (.inl t), some (.inl s), some (.inl r), some (.inl (Int32.ofNat C))]) (st' := [.inr (.inr (.inl (76, 277)))]) (m' := (f, l)) rfl rfl (fl_bo rfl) rfl ?_
  refine fl_Tq.stp (pc' := 115) (lv' := [some (.inr (.inr (.inl (76, 277)))), some (.inl a), some (.inl b), some (.inl (v + (r_voltsOf_v f (Int32.ofNat C) C))), some (.inl (if u.toInt < (f 280 (444 + 61 * C + 3)).toInt then f 280 (444 + 61 * C + 3) else u)), some (.inl t), some (.inl s), some (.inl r), some (.inl (Int32.ofNat C))]) (st' := [.inl (Int32.ofNat C), .inr (.inr (.inl (76, 277)))]) (m' := (f, l)) rfl rfl (fl_bo rfl) rfl ?_
  refine fl_Tq.cal rfl rfl (fl_bo rfl) rfl ?_
  refine r_partOf_q (at_ofN (by omega)) (by omega) hk ?_
  show fl_Tq _ 273 118 [some (.inr (.inr (.inl (76, 277)))), some (.inl a), some (.inl b), some (.inl (v + (r_voltsOf_v f (Int32.ofNat C) C))), some (.inl (if u.toInt < (f 280 (444 + 61 * C + 3)).toInt then f 280 (444 + 61 * C + 3) else u)), some (.inl t), some (.inl s), some (.inl r), some (.inl (Int32.ofNat C))] [.inl (r_partOf_v f (Int32.ofNat C) C)] (f, l) _
  refine fl_Tq.stp (pc' := 120) (lv' := [some (.inr (.inr (.inl (76, 277)))), some (.inl a), some (.inl b), some (.inl (v + (r_voltsOf_v f (Int32.ofNat C) C))), some (.inl (if u.toInt < (f 280 (444 + 61 * C + 3)).toInt then f 280 (444 + 61 * C + 3) else u)), some (.inl t), some (.inl s), some (.inl r), some (.inl (Int32.ofNat C))]) (st' := [.inl t, .inl (r_partOf_v f (Int32.ofNat C) C)]) (m' := (f, l)) rfl rfl (fl_bo rfl) rfl ?_
  have hj192 : fl_Tq (pw_P L xs) 273 134 [some (.inr (.inr (.inl (76, 277)))), some (.inl a), some (.inl b), some (.inl (v + (r_voltsOf_v f (Int32.ofNat C) C))), some (.inl (if u.toInt < (f 280 (444 + 61 * C + 3)).toInt then f 280 (444 + 61 * C + 3) else u)), some (.inl t), some (.inl s), some (.inl r), some (.inl (Int32.ofNat C))] [.inl (if t.toInt < (r_partOf_v f (Int32.ofNat C) C).toInt then r_partOf_v f (Int32.ofNat C) C else t)] (f, l) Q → fl_Tq (pw_P L xs) 273 120 [some (.inr (.inr (.inl (76, 277)))), some (.inl a), some (.inl b), some (.inl (v + (r_voltsOf_v f (Int32.ofNat C) C))), some (.inl (if u.toInt < (f 280 (444 + 61 * C + 3)).toInt then f 280 (444 + 61 * C + 3) else u)), some (.inl t), some (.inl s), some (.inl r), some (.inl (Int32.ofNat C))] [.inl t, .inl (r_partOf_v f (Int32.ofNat C) C)] (f, l) Q := by
    intro hJ
    by_cases h2 : t.toInt < (r_partOf_v f (Int32.ofNat C) C).toInt
    · refine fl_Tq.jf rfl (fl_bo rfl) (c2_le_f h2) rfl ?_
      refine fl_Tq.stp (pc' := 124) (lv' := [some (.inr (.inr (.inl (76, 277)))), some (.inl a), some (.inl b), some (.inl (v + (r_voltsOf_v f (Int32.ofNat C) C))), some (.inl (if u.toInt < (f 280 (444 + 61 * C + 3)).toInt then f 280 (444 + 61 * C + 3) else u)), some (.inl t), some (.inl s), some (.inl r), some (.inl (Int32.ofNat C))]) (st' := [.inr (.inr (.inl (76, 277)))]) (m' := (f, l)) rfl rfl (fl_bo rfl) rfl ?_
      refine fl_Tq.stp (pc' := 126) (lv' := [some (.inr (.inr (.inl (76, 277)))), some (.inl a), some (.inl b), some (.inl (v + (r_voltsOf_v f (Int32.ofNat C) C))), some (.inl (if u.toInt < (f 280 (444 + 61 * C + 3)).toInt then f 280 (444 + 61 * C + 3) else u)), some (.inl t), some (.inl s), some (.inl r), some (.inl (Int32.ofNat C))]) (st' := [.inl (Int32.ofNat C), .inr (.inr (.inl (76, 277)))]) (m' := (f, l)) rfl rfl (fl_bo rfl) rfl ?_
      refine fl_Tq.cal rfl rfl (fl_bo rfl) rfl ?_
      refine r_partOf_q (at_ofN (by omega)) (by omega) hk ?_
      show fl_Tq _ 273 129 [some (.inr (.inr (.inl (76, 277)))), some (.inl a), some (.inl b), some (.inl (v + (r_voltsOf_v f (Int32.ofNat C) C))), some (.inl (if u.toInt < (f 280 (444 + 61 * C + 3)).toInt then f 280 (444 + 61 * C + 3) else u)), some (.inl t), some (.inl s), some (.inl r), some (.inl (Int32.ofNat C))] [.inl (r_partOf_v f (Int32.ofNat C) C)] (f, l) _
      refine fl_Tq.stp (pc' := 134) (lv' := [some (.inr (.inr (.inl (76, 277)))), some (.inl a), some (.inl b), some (.inl (v + (r_voltsOf_v f (Int32.ofNat C) C))), some (.inl (if u.toInt < (f 280 (444 + 61 * C + 3)).toInt then f 280 (444 + 61 * C + 3) else u)), some (.inl t), some (.inl s), some (.inl r), some (.inl (Int32.ofNat C))]) (st' := [.inl (r_partOf_v f (Int32.ofNat C) C)]) (m' := (f, l)) rfl rfl (fl_bo rfl) rfl ?_
      have e0 : (if t.toInt < (r_partOf_v f (Int32.ofNat C) C).toInt then r_partOf_v f (Int32.ofNat C) C else t) = r_partOf_v f (Int32.ofNat C) C := by simp only [if_pos h2]
      rw [e0] at hJ
      exact hJ
    · refine fl_Tq.jt rfl (fl_bo rfl) (c2_le_t h2) rfl ?_
      refine fl_Tq.stp (pc' := 134) (lv' := [some (.inr (.inr (.inl (76, 277)))), some (.inl a), some (.inl b), some (.inl (v + (r_voltsOf_v f (Int32.ofNat C) C))), some (.inl (if u.toInt < (f 280 (444 + 61 * C + 3)).toInt then f 280 (444 + 61 * C + 3) else u)), some (.inl t), some (.inl s), some (.inl r), some (.inl (Int32.ofNat C))]) (st' := [.inl t]) (m' := (f, l)) rfl rfl (fl_bo rfl) rfl ?_
      have e0 : (if t.toInt < (r_partOf_v f (Int32.ofNat C) C).toInt then r_partOf_v f (Int32.ofNat C) C else t) = t := by simp only [if_neg h2]
      rw [e0] at hJ
      exact hJ
  refine hj192 ?_
  show fl_Tq _ 273 134 [some (.inr (.inr (.inl (76, 277)))), some (.inl a), some (.inl b), some (.inl (v + (r_voltsOf_v f (Int32.ofNat C) C))), some (.inl (if u.toInt < (f 280 (444 + 61 * C + 3)).toInt then f 280 (444 + 61 * C + 3) else u)), some (.inl t), some (.inl s), some (.inl r), some (.inl (Int32.ofNat C))] [.inl (if t.toInt < (r_partOf_v f (Int32.ofNat C) C).toInt then r_partOf_v f (Int32.ofNat C) C else t)] (f, l) _
  refine fl_Tq.stp (pc' := 136) (lv' := [some (.inr (.inr (.inl (76, 277)))), some (.inl a), some (.inl b), some (.inl (v + (r_voltsOf_v f (Int32.ofNat C) C))), some (.inl (if u.toInt < (f 280 (444 + 61 * C + 3)).toInt then f 280 (444 + 61 * C + 3) else u)), some (.inl (if t.toInt < (r_partOf_v f (Int32.ofNat C) C).toInt then r_partOf_v f (Int32.ofNat C) C else t)), some (.inl s), some (.inl r), some (.inl (Int32.ofNat C))]) (st' := []) (m' := (f, l)) rfl rfl (fl_bo rfl) rfl ?_
  refine fl_Tq.stp (pc' := 138) (lv' := [some (.inr (.inr (.inl (76, 277)))), some (.inl a), some (.inl b), some (.inl (v + (r_voltsOf_v f (Int32.ofNat C) C))), some (.inl (if u.toInt < (f 280 (444 + 61 * C + 3)).toInt then f 280 (444 + 61 * C + 3) else u)), some (.inl (if t.toInt < (r_partOf_v f (Int32.ofNat C) C).toInt then r_partOf_v f (Int32.ofNat C) C else t)), some (.inl s), some (.inl r), some (.inl (Int32.ofNat C))]) (st' := [.inl s]) (m' := (f, l)) rfl rfl (fl_bo rfl) rfl ?_
  refine fl_Tq.stp (pc' := 139) (lv' := [some (.inr (.inr (.inl (76, 277)))), some (.inl a), some (.inl b), some (.inl (v + (r_voltsOf_v f (Int32.ofNat C) C))), some (.inl (if u.toInt < (f 280 (444 + 61 * C + 3)).toInt then f 280 (444 + 61 * C + 3) else u)), some (.inl (if t.toInt < (r_partOf_v f (Int32.ofNat C) C).toInt then r_partOf_v f (Int32.ofNat C) C else t)), some (.inl s), some (.inl r), some (.inl (Int32.ofNat C))]) (st' := [.inr (.inr (.inl (76, 277))), .inl s]) (m' := (f, l)) rfl rfl (fl_bo rfl) rfl ?_
  refine fl_Tq.stp (pc' := 141) (lv' := [some (.inr (.inr (.inl (76, 277)))), some (.inl a), some (.inl b), some (.inl (v + (r_voltsOf_v f (Int32.ofNat C) C))), some (.inl (if u.toInt < (f 280 (444 + 61 * C + 3)).toInt then f 280 (444 + 61 * C + 3) else u)), some (.inl (if t.toInt < (r_partOf_v f (Int32.ofNat C) C).toInt then r_partOf_v f (Int32.ofNat C) C else t)), some (.inl s), some (.inl r), some (.inl (Int32.ofNat C))]) (st' := [.inl (Int32.ofNat C), .inr (.inr (.inl (76, 277))), .inl s]) (m' := (f, l)) rfl rfl (fl_bo rfl) rfl ?_
  refine fl_Tq.cal rfl rfl (fl_bo rfl) rfl ?_
  refine r_partOf_q (at_ofN (by omega)) (by omega) hk ?_
  show fl_Tq _ 273 144 [some (.inr (.inr (.inl (76, 277)))), some (.inl a), some (.inl b), some (.inl (v + (r_voltsOf_v f (Int32.ofNat C) C))), some (.inl (if u.toInt < (f 280 (444 + 61 * C + 3)).toInt then f 280 (444 + 61 * C + 3) else u)), some (.inl (if t.toInt < (r_partOf_v f (Int32.ofNat C) C).toInt then r_partOf_v f (Int32.ofNat C) C else t)), some (.inl s), some (.inl r), some (.inl (Int32.ofNat C))] [.inl (r_partOf_v f (Int32.ofNat C) C), .inl s] (f, l) _
  refine fl_Tq.cal rfl rfl (fl_bo rfl) rfl ?_
  refine r_lesser_q  ?_
  show fl_Tq _ 273 147 [some (.inr (.inr (.inl (76, 277)))), some (.inl a), some (.inl b), some (.inl (v + (r_voltsOf_v f (Int32.ofNat C) C))), some (.inl (if u.toInt < (f 280 (444 + 61 * C + 3)).toInt then f 280 (444 + 61 * C + 3) else u)), some (.inl (if t.toInt < (r_partOf_v f (Int32.ofNat C) C).toInt then r_partOf_v f (Int32.ofNat C) C else t)), some (.inl s), some (.inl r), some (.inl (Int32.ofNat C))] [.inl (r_lesser_v s (r_partOf_v f (Int32.ofNat C) C))] (f, l) _
  refine fl_Tq.stp (pc' := 149) (lv' := [some (.inr (.inr (.inl (76, 277)))), some (.inl a), some (.inl b), some (.inl (v + (r_voltsOf_v f (Int32.ofNat C) C))), some (.inl (if u.toInt < (f 280 (444 + 61 * C + 3)).toInt then f 280 (444 + 61 * C + 3) else u)), some (.inl (if t.toInt < (r_partOf_v f (Int32.ofNat C) C).toInt then r_partOf_v f (Int32.ofNat C) C else t)), some (.inl (r_lesser_v s (r_partOf_v f (Int32.ofNat C) C))), some (.inl r), some (.inl (Int32.ofNat C))]) (st' := []) (m' := (f, l)) rfl rfl (fl_bo rfl) rfl ?_
  refine fl_Tq.stp (pc' := 152) (lv' := [some (.inr (.inr (.inl (76, 277)))), some (.inl a), some (.inl b), some (.inl (v + (r_voltsOf_v f (Int32.ofNat C) C))), some (.inl (if u.toInt < (f 280 (444 + 61 * C + 3)).toInt then f 280 (444 + 61 * C + 3) else u)), some (.inl (if t.toInt < (r_partOf_v f (Int32.ofNat C) C).toInt then r_partOf_v f (Int32.ofNat C) C else t)), some (.inl (r_lesser_v s (r_partOf_v f (Int32.ofNat C) C))), some (.inl (r + (1 : Int32))), some (.inl (Int32.ofNat C))]) (st' := []) (m' := (f, l)) rfl rfl (fl_bo rfl) rfl ?_
  refine fl_Tq.stp (pc' := 155) (lv' := [some (.inr (.inr (.inl (76, 277)))), some (.inl a), some (.inl b), some (.inl (v + (r_voltsOf_v f (Int32.ofNat C) C))), some (.inl (if u.toInt < (f 280 (444 + 61 * C + 3)).toInt then f 280 (444 + 61 * C + 3) else u)), some (.inl (if t.toInt < (r_partOf_v f (Int32.ofNat C) C).toInt then r_partOf_v f (Int32.ofNat C) C else t)), some (.inl (r_lesser_v s (r_partOf_v f (Int32.ofNat C) C))), some (.inl (r + (1 : Int32))), some (.inl ((Int32.ofNat C) + (1 : Int32)))]) (st' := []) (m' := (f, l)) rfl rfl (fl_bo rfl) rfl ?_
  refine fl_Tq.stp (pc' := 56) (lv' := [some (.inr (.inr (.inl (76, 277)))), some (.inl a), some (.inl b), some (.inl (v + (r_voltsOf_v f (Int32.ofNat C) C))), some (.inl (if u.toInt < (f 280 (444 + 61 * C + 3)).toInt then f 280 (444 + 61 * C + 3) else u)), some (.inl (if t.toInt < (r_partOf_v f (Int32.ofNat C) C).toInt then r_partOf_v f (Int32.ofNat C) C else t)), some (.inl (r_lesser_v s (r_partOf_v f (Int32.ofNat C) C))), some (.inl (r + (1 : Int32))), some (.inl ((Int32.ofNat C) + (1 : Int32)))]) (st' := []) (m' := (f, l)) rfl rfl (fl_bo rfl) rfl ?_
  exact k
theorem y_mod_C {L : Nat} {xs : Nat → Int32} {f : t2_F} {l : t2_L} {Q : Option fl_V → fl_M → Prop} {a b v u t s r : Int32} {C : Nat} (hk1 : ¬ ((Int32.ofNat C).toInt < (((4 : Int32) * a) + (4 : Int32)).toInt)) (k : Q (some (.inl (if b.toInt = 0 then v else (if b.toInt = (1 : Int32).toInt then u else (if b.toInt = (2 : Int32).toInt then t - s else r))))) (f, l)) : fl_Tq (pw_P L xs) 273 56 [some (.inr (.inr (.inl (76, 277)))), some (.inl a), some (.inl b), some (.inl v), some (.inl u), some (.inl t), some (.inl s), some (.inl r), some (.inl (Int32.ofNat C))] [] (f, l) Q := by
  refine fl_Tq.stp (pc' := 58) (lv' := [some (.inr (.inr (.inl (76, 277)))), some (.inl a), some (.inl b), some (.inl v), some (.inl u), some (.inl t), some (.inl s), some (.inl r), some (.inl (Int32.ofNat C))]) (st' := [.inl (Int32.ofNat C)]) (m' := (f, l)) rfl rfl (fl_bo rfl) rfl ?_
  refine fl_Tq.cI (c := (4 : Int32)) rfl (by decide +kernel) (fl_bo rfl) ?_
  refine fl_Tq.stp (pc' := 60) (lv' := [some (.inr (.inr (.inl (76, 277)))), some (.inl a), some (.inl b), some (.inl v), some (.inl u), some (.inl t), some (.inl s), some (.inl r), some (.inl (Int32.ofNat C))]) (st' := [.inl a, .inl (4 : Int32), .inl (Int32.ofNat C)]) (m' := (f, l)) rfl rfl (fl_bo rfl) rfl ?_
  refine fl_Tq.stp (pc' := 61) (lv' := [some (.inr (.inr (.inl (76, 277)))), some (.inl a), some (.inl b), some (.inl v), some (.inl u), some (.inl t), some (.inl s), some (.inl r), some (.inl (Int32.ofNat C))]) (st' := [.inl ((4 : Int32) * a), .inl (Int32.ofNat C)]) (m' := (f, l)) rfl rfl (fl_bo rfl) rfl ?_
  refine fl_Tq.cI (c := (4 : Int32)) rfl (by decide +kernel) (fl_bo rfl) ?_
  refine fl_Tq.stp (pc' := 63) (lv' := [some (.inr (.inr (.inl (76, 277)))), some (.inl a), some (.inl b), some (.inl v), some (.inl u), some (.inl t), some (.inl s), some (.inl r), some (.inl (Int32.ofNat C))]) (st' := [.inl (((4 : Int32) * a) + (4 : Int32)), .inl (Int32.ofNat C)]) (m' := (f, l)) rfl rfl (fl_bo rfl) rfl ?_
  refine fl_Tq.jt rfl (fl_bo rfl) (c2_ge_t hk1) rfl ?_
  refine fl_Tq.stp (pc' := 159) (lv' := [some (.inr (.inr (.inl (76, 277)))), some (.inl a), some (.inl b), some (.inl v), some (.inl u), some (.inl t), some (.inl s), some (.inl r), some (.inl (Int32.ofNat C))]) (st' := [.inl b]) (m' := (f, l)) rfl rfl (fl_bo rfl) rfl ?_
  have hj193 : fl_Tq (pw_P L xs) 273 191 [some (.inr (.inr (.inl (76, 277)))), some (.inl a), some (.inl b), some (.inl v), some (.inl u), some (.inl t), some (.inl s), some (.inl r), some (.inl (Int32.ofNat C))] [.inl (if b.toInt = 0 then v else (if b.toInt = (1 : Int32).toInt then u else (if b.toInt = (2 : Int32).toInt then t - s else r)))] (f, l) Q → fl_Tq (pw_P L xs) 273 159 [some (.inr (.inr (.inl (76, 277)))), some (.inl a), some (.inl b), some (.inl v), some (.inl u), some (.inl t), some (.inl s), some (.inl r), some (.inl (Int32.ofNat C))] [.inl b] (f, l) Q := by
    intro hJ
    by_cases h1 : b.toInt = 0
    · refine fl_Tq.zf rfl (fl_bo rfl) (c1_ne_f h1) rfl ?_
      refine fl_Tq.stp (pc' := 163) (lv' := [some (.inr (.inr (.inl (76, 277)))), some (.inl a), some (.inl b), some (.inl v), some (.inl u), some (.inl t), some (.inl s), some (.inl r), some (.inl (Int32.ofNat C))]) (st' := [.inl v]) (m' := (f, l)) rfl rfl (fl_bo rfl) rfl ?_
      refine fl_Tq.stp (pc' := 191) (lv' := [some (.inr (.inr (.inl (76, 277)))), some (.inl a), some (.inl b), some (.inl v), some (.inl u), some (.inl t), some (.inl s), some (.inl r), some (.inl (Int32.ofNat C))]) (st' := [.inl v]) (m' := (f, l)) rfl rfl (fl_bo rfl) rfl ?_
      have e0 : (if b.toInt = 0 then v else (if b.toInt = (1 : Int32).toInt then u else (if b.toInt = (2 : Int32).toInt then t - s else r))) = v := by simp only [if_pos h1]
      rw [e0] at hJ
      exact hJ
    · refine fl_Tq.zt rfl (fl_bo rfl) (c1_ne_t h1) rfl ?_
      refine fl_Tq.stp (pc' := 167) (lv' := [some (.inr (.inr (.inl (76, 277)))), some (.inl a), some (.inl b), some (.inl v), some (.inl u), some (.inl t), some (.inl s), some (.inl r), some (.inl (Int32.ofNat C))]) (st' := [.inl b]) (m' := (f, l)) rfl rfl (fl_bo rfl) rfl ?_
      refine fl_Tq.cI (c := (1 : Int32)) rfl (by decide +kernel) (fl_bo rfl) ?_
      by_cases h2 : b.toInt = (1 : Int32).toInt
      · refine fl_Tq.jf rfl (fl_bo rfl) (c2_ne_f h2) rfl ?_
        refine fl_Tq.stp (pc' := 173) (lv' := [some (.inr (.inr (.inl (76, 277)))), some (.inl a), some (.inl b), some (.inl v), some (.inl u), some (.inl t), some (.inl s), some (.inl r), some (.inl (Int32.ofNat C))]) (st' := [.inl u]) (m' := (f, l)) rfl rfl (fl_bo rfl) rfl ?_
        refine fl_Tq.stp (pc' := 191) (lv' := [some (.inr (.inr (.inl (76, 277)))), some (.inl a), some (.inl b), some (.inl v), some (.inl u), some (.inl t), some (.inl s), some (.inl r), some (.inl (Int32.ofNat C))]) (st' := [.inl u]) (m' := (f, l)) rfl rfl (fl_bo rfl) rfl ?_
        have e0 : (if b.toInt = 0 then v else (if b.toInt = (1 : Int32).toInt then u else (if b.toInt = (2 : Int32).toInt then t - s else r))) = u := by simp only [if_neg h1, if_pos h2]
        rw [e0] at hJ
        exact hJ
      · refine fl_Tq.jt rfl (fl_bo rfl) (c2_ne_t h2) rfl ?_
        refine fl_Tq.stp (pc' := 177) (lv' := [some (.inr (.inr (.inl (76, 277)))), some (.inl a), some (.inl b), some (.inl v), some (.inl u), some (.inl t), some (.inl s), some (.inl r), some (.inl (Int32.ofNat C))]) (st' := [.inl b]) (m' := (f, l)) rfl rfl (fl_bo rfl) rfl ?_
        refine fl_Tq.cI (c := (2 : Int32)) rfl (by decide +kernel) (fl_bo rfl) ?_
        by_cases h3 : b.toInt = (2 : Int32).toInt
        · refine fl_Tq.jf rfl (fl_bo rfl) (c2_ne_f h3) rfl ?_
          refine fl_Tq.stp (pc' := 183) (lv' := [some (.inr (.inr (.inl (76, 277)))), some (.inl a), some (.inl b), some (.inl v), some (.inl u), some (.inl t), some (.inl s), some (.inl r), some (.inl (Int32.ofNat C))]) (st' := [.inl t]) (m' := (f, l)) rfl rfl (fl_bo rfl) rfl ?_
          refine fl_Tq.stp (pc' := 185) (lv' := [some (.inr (.inr (.inl (76, 277)))), some (.inl a), some (.inl b), some (.inl v), some (.inl u), some (.inl t), some (.inl s), some (.inl r), some (.inl (Int32.ofNat C))]) (st' := [.inl s, .inl t]) (m' := (f, l)) rfl rfl (fl_bo rfl) rfl ?_
          refine fl_Tq.stp (pc' := 186) (lv' := [some (.inr (.inr (.inl (76, 277)))), some (.inl a), some (.inl b), some (.inl v), some (.inl u), some (.inl t), some (.inl s), some (.inl r), some (.inl (Int32.ofNat C))]) (st' := [.inl (t - s)]) (m' := (f, l)) rfl rfl (fl_bo rfl) rfl ?_
          refine fl_Tq.stp (pc' := 191) (lv' := [some (.inr (.inr (.inl (76, 277)))), some (.inl a), some (.inl b), some (.inl v), some (.inl u), some (.inl t), some (.inl s), some (.inl r), some (.inl (Int32.ofNat C))]) (st' := [.inl (t - s)]) (m' := (f, l)) rfl rfl (fl_bo rfl) rfl ?_
          have e0 : (if b.toInt = 0 then v else (if b.toInt = (1 : Int32).toInt then u else (if b.toInt = (2 : Int32).toInt then t - s else r))) = t - s := by simp only [if_neg h1, if_neg h2, if_pos h3]
          rw [e0] at hJ
          exact hJ
        · refine fl_Tq.jt rfl (fl_bo rfl) (c2_ne_t h3) rfl ?_
          refine fl_Tq.stp (pc' := 191) (lv' := [some (.inr (.inr (.inl (76, 277)))), some (.inl a), some (.inl b), some (.inl v), some (.inl u), some (.inl t), some (.inl s), some (.inl r), some (.inl (Int32.ofNat C))]) (st' := [.inl r]) (m' := (f, l)) rfl rfl (fl_bo rfl) rfl ?_
          have e0 : (if b.toInt = 0 then v else (if b.toInt = (1 : Int32).toInt then u else (if b.toInt = (2 : Int32).toInt then t - s else r))) = r := by simp only [if_neg h1, if_neg h2, if_neg h3]
          rw [e0] at hJ
          exact hJ
  refine hj193 ?_
  show fl_Tq _ 273 191 [some (.inr (.inr (.inl (76, 277)))), some (.inl a), some (.inl b), some (.inl v), some (.inl u), some (.inl t), some (.inl s), some (.inl r), some (.inl (Int32.ofNat C))] [.inl (if b.toInt = 0 then v else (if b.toInt = (1 : Int32).toInt then u else (if b.toInt = (2 : Int32).toInt then t - s else r)))] (f, l) _
  exact fl_Tq.ret rfl rfl rfl k
theorem y_mod_D {L : Nat} {xs : Nat → Int32} {f : t2_F} {l : t2_L} {Q : Option fl_V → fl_M → Prop} {a b v u t s r : Int32} {C : Nat} (hk1 : (Int32.ofNat C).toInt < (((4 : Int32) * a) + (4 : Int32)).toInt) (hk2 : ¬ ((Int32.ofNat C).toInt < (f 280 2).toInt)) (k : Q (some (.inl (if b.toInt = 0 then v else (if b.toInt = (1 : Int32).toInt then u else (if b.toInt = (2 : Int32).toInt then t - s else r))))) (f, l)) : fl_Tq (pw_P L xs) 273 56 [some (.inr (.inr (.inl (76, 277)))), some (.inl a), some (.inl b), some (.inl v), some (.inl u), some (.inl t), some (.inl s), some (.inl r), some (.inl (Int32.ofNat C))] [] (f, l) Q := by
  refine fl_Tq.stp (pc' := 58) (lv' := [some (.inr (.inr (.inl (76, 277)))), some (.inl a), some (.inl b), some (.inl v), some (.inl u), some (.inl t), some (.inl s), some (.inl r), some (.inl (Int32.ofNat C))]) (st' := [.inl (Int32.ofNat C)]) (m' := (f, l)) rfl rfl (fl_bo rfl) rfl ?_
  refine fl_Tq.cI (c := (4 : Int32)) rfl (by decide +kernel) (fl_bo rfl) ?_
  refine fl_Tq.stp (pc' := 60) (lv' := [some (.inr (.inr (.inl (76, 277)))), some (.inl a), some (.inl b), some (.inl v), some (.inl u), some (.inl t), some (.inl s), some (.inl r), some (.inl (Int32.ofNat C))]) (st' := [.inl a, .inl (4 : Int32), .inl (Int32.ofNat C)]) (m' := (f, l)) rfl rfl (fl_bo rfl) rfl ?_
  refine fl_Tq.stp (pc' := 61) (lv' := [some (.inr (.inr (.inl (76, 277)))), some (.inl a), some (.inl b), some (.inl v), some (.inl u), some (.inl t), some (.inl s), some (.inl r), some (.inl (Int32.ofNat C))]) (st' := [.inl ((4 : Int32) * a), .inl (Int32.ofNat C)]) (m' := (f, l)) rfl rfl (fl_bo rfl) rfl ?_
  refine fl_Tq.cI (c := (4 : Int32)) rfl (by decide +kernel) (fl_bo rfl) ?_
  refine fl_Tq.stp (pc' := 63) (lv' := [some (.inr (.inr (.inl (76, 277)))), some (.inl a), some (.inl b), some (.inl v), some (.inl u), some (.inl t), some (.inl s), some (.inl r), some (.inl (Int32.ofNat C))]) (st' := [.inl (((4 : Int32) * a) + (4 : Int32)), .inl (Int32.ofNat C)]) (m' := (f, l)) rfl rfl (fl_bo rfl) rfl ?_
  refine fl_Tq.jf rfl (fl_bo rfl) (c2_ge_f hk1) rfl ?_
  refine fl_Tq.stp (pc' := 68) (lv' := [some (.inr (.inr (.inl (76, 277)))), some (.inl a), some (.inl b), some (.inl v), some (.inl u), some (.inl t), some (.inl s), some (.inl r), some (.inl (Int32.ofNat C))]) (st' := [.inl (Int32.ofNat C)]) (m' := (f, l)) rfl rfl (fl_bo rfl) rfl ?_
  refine fl_Tq.stp (pc' := 69) (lv' := [some (.inr (.inr (.inl (76, 277)))), some (.inl a), some (.inl b), some (.inl v), some (.inl u), some (.inl t), some (.inl s), some (.inl r), some (.inl (Int32.ofNat C))]) (st' := [.inr (.inr (.inl (76, 277))), .inl (Int32.ofNat C)]) (m' := (f, l)) rfl rfl (fl_bo rfl) rfl ?_
  refine fl_Tq.stp (pc' := 72) (lv' := [some (.inr (.inr (.inl (76, 277)))), some (.inl a), some (.inl b), some (.inl v), some (.inl u), some (.inl t), some (.inl s), some (.inl r), some (.inl (Int32.ofNat C))]) (st' := [.inr (.inr (.inl (79, 280))), .inl (Int32.ofNat C)]) (m' := (f, l)) rfl rfl (fl_bo rfl) rfl ?_
  refine fl_Tq.cI (c := (2 : Int32)) rfl (by decide +kernel) (fl_bo rfl) ?_
  refine fl_Tq.ldV (p := 280) (τ := 79) (n := 29780) (z := (0, 0, 0)) (k := 2) (v := f 280 2) rfl (fl_bo rfl) rfl (by decide +kernel) (by decide) rfl ?_
  refine fl_Tq.jt rfl (fl_bo rfl) (c2_ge_t hk2) rfl ?_
  refine fl_Tq.stp (pc' := 159) (lv' := [some (.inr (.inr (.inl (76, 277)))), some (.inl a), some (.inl b), some (.inl v), some (.inl u), some (.inl t), some (.inl s), some (.inl r), some (.inl (Int32.ofNat C))]) (st' := [.inl b]) (m' := (f, l)) rfl rfl (fl_bo rfl) rfl ?_
  have hj194 : fl_Tq (pw_P L xs) 273 191 [some (.inr (.inr (.inl (76, 277)))), some (.inl a), some (.inl b), some (.inl v), some (.inl u), some (.inl t), some (.inl s), some (.inl r), some (.inl (Int32.ofNat C))] [.inl (if b.toInt = 0 then v else (if b.toInt = (1 : Int32).toInt then u else (if b.toInt = (2 : Int32).toInt then t - s else r)))] (f, l) Q → fl_Tq (pw_P L xs) 273 159 [some (.inr (.inr (.inl (76, 277)))), some (.inl a), some (.inl b), some (.inl v), some (.inl u), some (.inl t), some (.inl s), some (.inl r), some (.inl (Int32.ofNat C))] [.inl b] (f, l) Q := by
    intro hJ
    by_cases h1 : b.toInt = 0
    · refine fl_Tq.zf rfl (fl_bo rfl) (c1_ne_f h1) rfl ?_
      refine fl_Tq.stp (pc' := 163) (lv' := [some (.inr (.inr (.inl (76, 277)))), some (.inl a), some (.inl b), some (.inl v), some (.inl u), some (.inl t), some (.inl s), some (.inl r), some (.inl (Int32.ofNat C))]) (st' := [.inl v]) (m' := (f, l)) rfl rfl (fl_bo rfl) rfl ?_
      refine fl_Tq.stp (pc' := 191) (lv' := [some (.inr (.inr (.inl (76, 277)))), some (.inl a), some (.inl b), some (.inl v), some (.inl u), some (.inl t), some (.inl s), some (.inl r), some (.inl (Int32.ofNat C))]) (st' := [.inl v]) (m' := (f, l)) rfl rfl (fl_bo rfl) rfl ?_
      have e0 : (if b.toInt = 0 then v else (if b.toInt = (1 : Int32).toInt then u else (if b.toInt = (2 : Int32).toInt then t - s else r))) = v := by simp only [if_pos h1]
      rw [e0] at hJ
      exact hJ
    · refine fl_Tq.zt rfl (fl_bo rfl) (c1_ne_t h1) rfl ?_
      refine fl_Tq.stp (pc' := 167) (lv' := [some (.inr (.inr (.inl (76, 277)))), some (.inl a), some (.inl b), some (.inl v), some (.inl u), some (.inl t), some (.inl s), some (.inl r), some (.inl (Int32.ofNat C))]) (st' := [.inl b]) (m' := (f, l)) rfl rfl (fl_bo rfl) rfl ?_
      refine fl_Tq.cI (c := (1 : Int32)) rfl (by decide +kernel) (fl_bo rfl) ?_
      by_cases h2 : b.toInt = (1 : Int32).toInt
      · refine fl_Tq.jf rfl (fl_bo rfl) (c2_ne_f h2) rfl ?_
        refine fl_Tq.stp (pc' := 173) (lv' := [some (.inr (.inr (.inl (76, 277)))), some (.inl a), some (.inl b), some (.inl v), some (.inl u), some (.inl t), some (.inl s), some (.inl r), some (.inl (Int32.ofNat C))]) (st' := [.inl u]) (m' := (f, l)) rfl rfl (fl_bo rfl) rfl ?_
        refine fl_Tq.stp (pc' := 191) (lv' := [some (.inr (.inr (.inl (76, 277)))), some (.inl a), some (.inl b), some (.inl v), some (.inl u), some (.inl t), some (.inl s), some (.inl r), some (.inl (Int32.ofNat C))]) (st' := [.inl u]) (m' := (f, l)) rfl rfl (fl_bo rfl) rfl ?_
        have e0 : (if b.toInt = 0 then v else (if b.toInt = (1 : Int32).toInt then u else (if b.toInt = (2 : Int32).toInt then t - s else r))) = u := by simp only [if_neg h1, if_pos h2]
        rw [e0] at hJ
        exact hJ
      · refine fl_Tq.jt rfl (fl_bo rfl) (c2_ne_t h2) rfl ?_
        refine fl_Tq.stp (pc' := 177) (lv' := [some (.inr (.inr (.inl (76, 277)))), some (.inl a), some (.inl b), some (.inl v), some (.inl u), some (.inl t), some (.inl s), some (.inl r), some (.inl (Int32.ofNat C))]) (st' := [.inl b]) (m' := (f, l)) rfl rfl (fl_bo rfl) rfl ?_
        refine fl_Tq.cI (c := (2 : Int32)) rfl (by decide +kernel) (fl_bo rfl) ?_
        by_cases h3 : b.toInt = (2 : Int32).toInt
        · refine fl_Tq.jf rfl (fl_bo rfl) (c2_ne_f h3) rfl ?_
          refine fl_Tq.stp (pc' := 183) (lv' := [some (.inr (.inr (.inl (76, 277)))), some (.inl a), some (.inl b), some (.inl v), some (.inl u), some (.inl t), some (.inl s), some (.inl r), some (.inl (Int32.ofNat C))]) (st' := [.inl t]) (m' := (f, l)) rfl rfl (fl_bo rfl) rfl ?_
          refine fl_Tq.stp (pc' := 185) (lv' := [some (.inr (.inr (.inl (76, 277)))), some (.inl a), some (.inl b), some (.inl v), some (.inl u), some (.inl t), some (.inl s), some (.inl r), some (.inl (Int32.ofNat C))]) (st' := [.inl s, .inl t]) (m' := (f, l)) rfl rfl (fl_bo rfl) rfl ?_
          refine fl_Tq.stp (pc' := 186) (lv' := [some (.inr (.inr (.inl (76, 277)))), some (.inl a), some (.inl b), some (.inl v), some (.inl u), some (.inl t), some (.inl s), some (.inl r), some (.inl (Int32.ofNat C))]) (st' := [.inl (t - s)]) (m' := (f, l)) rfl rfl (fl_bo rfl) rfl ?_
          refine fl_Tq.stp (pc' := 191) (lv' := [some (.inr (.inr (.inl (76, 277)))), some (.inl a), some (.inl b), some (.inl v), some (.inl u), some (.inl t), some (.inl s), some (.inl r), some (.inl (Int32.ofNat C))]) (st' := [.inl (t - s)]) (m' := (f, l)) rfl rfl (fl_bo rfl) rfl ?_
          have e0 : (if b.toInt = 0 then v else (if b.toInt = (1 : Int32).toInt then u else (if b.toInt = (2 : Int32).toInt then t - s else r))) = t - s := by simp only [if_neg h1, if_neg h2, if_pos h3]
          rw [e0] at hJ
          exact hJ
        · refine fl_Tq.jt rfl (fl_bo rfl) (c2_ne_t h3) rfl ?_
          refine fl_Tq.stp (pc' := 191) (lv' := [some (.inr (.inr (.inl (76, 277)))), some (.inl a), some (.inl b), some (.inl v), some (.inl u), some (.inl t), some (.inl s), some (.inl r), some (.inl (Int32.ofNat C))]) (st' := [.inl r]) (m' := (f, l)) rfl rfl (fl_bo rfl) rfl ?_
          have e0 : (if b.toInt = 0 then v else (if b.toInt = (1 : Int32).toInt then u else (if b.toInt = (2 : Int32).toInt then t - s else r))) = r := by simp only [if_neg h1, if_neg h2, if_neg h3]
          rw [e0] at hJ
          exact hJ
  refine hj194 ?_
  show fl_Tq _ 273 191 [some (.inr (.inr (.inl (76, 277)))), some (.inl a), some (.inl b), some (.inl v), some (.inl u), some (.inl t), some (.inl s), some (.inl r), some (.inl (Int32.ofNat C))] [.inl (if b.toInt = 0 then v else (if b.toInt = (1 : Int32).toInt then u else (if b.toInt = (2 : Int32).toInt then t - s else r)))] (f, l) _
  exact fl_Tq.ret rfl rfl rfl k

end

/-! 95.05.05p26.lean.txt -/
section
theorem x_zoneOf_A {L : Nat} {xs : Nat → Int32} {f : t2_F} {l : t2_L} {Q : Option fl_V → fl_M → Prop} {a b : Int32}  (k : ((t2_within_v a (0 : Int32) ((f 3 6) - (1 : Int32))).toInt = 0) → Q (some (.inl (-1000000000 : Int32))) (f, l)) (k1 : (¬ ((t2_within_v a (0 : Int32) ((f 3 6) - (1 : Int32))).toInt = 0)) → ((t2_within_v b (0 : Int32) (1 : Int32)).toInt = 0) → Q (some (.inl (-1000000000 : Int32))) (f, l)) (k2 : (¬ ((t2_within_v a (0 : Int32) ((f 3 6) - (1 : Int32))).toInt = 0)) → (¬ ((t2_within_v b (0 : Int32) (1 : Int32)).toInt = 0)) → fl_Tq (pw_P L xs) 127 32 [some (.inr (.inr (.inl (0, 0)))), some (.inl a), some (.inl b)] [] (f, l) Q) : fl_Tq (pw_P L xs) 127 0 [some (.inr (.inr (.inl (0, 0)))), some (.inl a), some (.inl b)] [] (f, l) Q := by
  refine fl_Tq.stp (pc' := 1) (lv' := [some (.inr (.inr (.inl (0, 0)))), some (.inl a), some (.inl b)]) (st' := [.inl a]) (m' := (f, l)) rfl rfl (fl_bo rfl) rfl ?_
  refine fl_Tq.cI (c := (0 : Int32)) rfl (by decide +kernel) (fl_bo rfl) ?_
  refine fl_Tq.stp (pc' := 3) (lv' := [some (.inr (.inr (.inl (0, 0)))), some (.inl a), some (.inl b)]) (st' := [.inr (.inr (.inl (0, 0))), .inl (0 : Int32), .inl a]) (m' := (f, l)) rfl rfl (fl_bo rfl) rfl ?_
  refine fl_Tq.stp (pc' := 6) (lv' := [some (.inr (.inr (.inl (0, 0)))), some (.inl a), some (.inl b)]) (st' := [.inr (.inr (.inl (1, 1))), .inl (0 : Int32), .inl a]) (m' := (f, l)) rfl rfl (fl_bo rfl) rfl ?_
  refine fl_Tq.stp (pc' := 9) (lv' := [some (.inr (.inr (.inl (0, 0)))), some (.inl a), some (.inl b)]) (st' := [.inr (.inr (.inl (3, 3))), .inl (0 : Int32), .inl a]) (m' := (f, l)) rfl rfl (fl_bo rfl) rfl ?_
  refine fl_Tq.gfV (k := 6) (v := f 3 6) rfl (fl_bo rfl) rfl rfl ?_
  refine fl_Tq.cI (c := (1 : Int32)) rfl (by decide +kernel) (fl_bo rfl) ?_
  refine fl_Tq.stp (pc' := 14) (lv' := [some (.inr (.inr (.inl (0, 0)))), some (.inl a), some (.inl b)]) (st' := [.inl ((f 3 6) - (1 : Int32)), .inl (0 : Int32), .inl a]) (m' := (f, l)) rfl rfl (fl_bo rfl) rfl ?_
  refine fl_Tq.cal rfl rfl (fl_bo rfl) rfl ?_
  refine t2_within_q  ?_
  show fl_Tq _ 127 17 [some (.inr (.inr (.inl (0, 0)))), some (.inl a), some (.inl b)] [.inl (t2_within_v a (0 : Int32) ((f 3 6) - (1 : Int32)))] (f, l) _
  by_cases h1 : (t2_within_v a (0 : Int32) ((f 3 6) - (1 : Int32))).toInt = 0
  · refine fl_Tq.zt rfl (fl_bo rfl) (c1_eq_t h1) rfl ?_
    refine fl_Tq.stp (pc' := 31) (lv' := [some (.inr (.inr (.inl (0, 0)))), some (.inl a), some (.inl b)]) (st' := [.inl (-1000000000 : Int32)]) (m' := (f, l)) rfl rfl (fl_bo rfl) rfl ?_
    exact fl_Tq.ret rfl rfl rfl (k h1)
  · refine fl_Tq.zf rfl (fl_bo rfl) (c1_eq_f h1) rfl ?_
    refine fl_Tq.stp (pc' := 21) (lv' := [some (.inr (.inr (.inl (0, 0)))), some (.inl a), some (.inl b)]) (st' := [.inl b]) (m' := (f, l)) rfl rfl (fl_bo rfl) rfl ?_
    refine fl_Tq.cI (c := (0 : Int32)) rfl (by decide +kernel) (fl_bo rfl) ?_
    refine fl_Tq.cI (c := (1 : Int32)) rfl (by decide +kernel) (fl_bo rfl) ?_
    refine fl_Tq.cal rfl rfl (fl_bo rfl) rfl ?_
    refine t2_within_q  ?_
    show fl_Tq _ 127 26 [some (.inr (.inr (.inl (0, 0)))), some (.inl a), some (.inl b)] [.inl (t2_within_v b (0 : Int32) (1 : Int32))] (f, l) _
    by_cases h2 : (t2_within_v b (0 : Int32) (1 : Int32)).toInt = 0
    · refine fl_Tq.zf rfl (fl_bo rfl) (c1_ne_f h2) rfl ?_
      refine fl_Tq.stp (pc' := 31) (lv' := [some (.inr (.inr (.inl (0, 0)))), some (.inl a), some (.inl b)]) (st' := [.inl (-1000000000 : Int32)]) (m' := (f, l)) rfl rfl (fl_bo rfl) rfl ?_
      exact fl_Tq.ret rfl rfl rfl (k1 h1 h2)
    · refine fl_Tq.zt rfl (fl_bo rfl) (c1_ne_t h2) rfl ?_
      exact k2 h1 h2
theorem x_zoneOf_B {L : Nat} {xs : Nat → Int32} {f : t2_F} {l : t2_L} {Q : Option fl_V → fl_M → Prop} {a b : Int32} {A B : Nat} (hA : a.toInt = (A : Int)) (hA1 : A < 6) (hB : b.toInt = (B : Int)) (hB1 : B < 2) (k : Q (some (.inl (f 7 (A * 2 + B)))) (f, l)) : fl_Tq (pw_P L xs) 127 32 [some (.inr (.inr (.inl (0, 0)))), some (.inl a), some (.inl b)] [] (f, l) Q := by
  refine fl_Tq.stp (pc' := 33) (lv' := [some (.inr (.inr (.inl (0, 0)))), some (.inl a), some (.inl b)]) (st' := [.inr (.inr (.inl (0, 0)))]) (m' := (f, l)) rfl rfl (fl_bo rfl) rfl ?_
  refine fl_Tq.stp (pc' := 36) (lv' := [some (.inr (.inr (.inl (0, 0)))), some (.inl a), some (.inl b)]) (st' := [.inr (.inr (.inl (1, 1)))]) (m' := (f, l)) rfl rfl (fl_bo rfl) rfl ?_
  refine fl_Tq.stp (pc' := 39) (lv' := [some (.inr (.inr (.inl (0, 0)))), some (.inl a), some (.inl b)]) (st' := [.inr (.inr (.inl (3, 3)))]) (m' := (f, l)) rfl rfl (fl_bo rfl) rfl ?_
  refine fl_Tq.stp (pc' := 42) (lv' := [some (.inr (.inr (.inl (0, 0)))), some (.inl a), some (.inl b)]) (st' := [.inr (.inr (.inl (7, 7)))]) (m' := (f, l)) rfl rfl (fl_bo rfl) rfl ?_
  refine fl_Tq.stp (pc' := 43) (lv' := [some (.inr (.inr (.inl (0, 0)))), some (.inl a), some (.inl b)]) (st' := [.inl a, .inr (.inr (.inl (7, 7)))]) (m' := (f, l)) rfl rfl (fl_bo rfl) rfl ?_
  refine fl_Tq.cI (c := (2 : Int32)) rfl (by decide +kernel) (fl_bo rfl) ?_
  refine fl_Tq.stp (pc' := 45) (lv' := [some (.inr (.inr (.inl (0, 0)))), some (.inl a), some (.inl b)]) (st' := [.inl (a * (2 : Int32)), .inr (.inr (.inl (7, 7)))]) (m' := (f, l)) rfl rfl (fl_bo rfl) rfl ?_
  refine fl_Tq.stp (pc' := 46) (lv' := [some (.inr (.inr (.inl (0, 0)))), some (.inl a), some (.inl b)]) (st' := [.inl b, .inl (a * (2 : Int32)), .inr (.inr (.inl (7, 7)))]) (m' := (f, l)) rfl rfl (fl_bo rfl) rfl ?_
  refine fl_Tq.stp (pc' := 47) (lv' := [some (.inr (.inr (.inl (0, 0)))), some (.inl a), some (.inl b)]) (st' := [.inl ((a * (2 : Int32)) + b), .inr (.inr (.inl (7, 7)))]) (m' := (f, l)) rfl rfl (fl_bo rfl) rfl ?_
  refine fl_Tq.ldV (p := 7) (τ := 7) (n := 12) (z := (0, 0, 0)) (k := A * 2 + B) (v := f 7 (A * 2 + B)) rfl (fl_bo rfl) rfl (t2_mc (M := 2) (by decide +kernel) (by decide) hA hB (by omega) (by omega)) (by omega) rfl ?_
  exact fl_Tq.ret rfl rfl rfl k
theorem y_zoneOf_A {L : Nat} {xs : Nat → Int32} {f : t2_F} {l : t2_L} {Q : Option fl_V → fl_M → Prop} {a b : Int32}  (k : ((r_isIn_v a (0 : Int32) ((f 280 17) - (1 : Int32))).toInt = 0) → Q (some (.inl (-1000000000 : Int32))) (f, l)) (k1 : (¬ ((r_isIn_v a (0 : Int32) ((f 280 17) - (1 : Int32))).toInt = 0)) → ((r_isIn_v b (0 : Int32) (1 : Int32)).toInt = 0) → Q (some (.inl (-1000000000 : Int32))) (f, l)) (k2 : (¬ ((r_isIn_v a (0 : Int32) ((f 280 17) - (1 : Int32))).toInt = 0)) → (¬ ((r_isIn_v b (0 : Int32) (1 : Int32)).toInt = 0)) → fl_Tq (pw_P L xs) 274 26 [some (.inr (.inr (.inl (76, 277)))), some (.inl a), some (.inl b)] [] (f, l) Q) : fl_Tq (pw_P L xs) 274 0 [some (.inr (.inr (.inl (76, 277)))), some (.inl a), some (.inl b)] [] (f, l) Q := by
  refine fl_Tq.stp (pc' := 1) (lv' := [some (.inr (.inr (.inl (76, 277)))), some (.inl a), some (.inl b)]) (st' := [.inl a]) (m' := (f, l)) rfl rfl (fl_bo rfl) rfl ?_
  refine fl_Tq.cI (c := (0 : Int32)) rfl (by decide +kernel) (fl_bo rfl) ?_
  refine fl_Tq.stp (pc' := 3) (lv' := [some (.inr (.inr (.inl (76, 277)))), some (.inl a), some (.inl b)]) (st' := [.inr (.inr (.inl (76, 277))), .inl (0 : Int32), .inl a]) (m' := (f, l)) rfl rfl (fl_bo rfl) rfl ?_
  refine fl_Tq.stp (pc' := 6) (lv' := [some (.inr (.inr (.inl (76, 277)))), some (.inl a), some (.inl b)]) (st' := [.inr (.inr (.inl (79, 280))), .inl (0 : Int32), .inl a]) (m' := (f, l)) rfl rfl (fl_bo rfl) rfl ?_
  refine fl_Tq.cB (c := (17 : Int32)) rfl (by decide +kernel) (fl_bo rfl) ?_
  refine fl_Tq.ldV (p := 280) (τ := 79) (n := 29780) (z := (0, 0, 0)) (k := 17) (v := f 280 17) rfl (fl_bo rfl) rfl (by decide +kernel) (by decide) rfl ?_
  refine fl_Tq.cI (c := (1 : Int32)) rfl (by decide +kernel) (fl_bo rfl) ?_
  refine fl_Tq.stp (pc' := 11) (lv' := [some (.inr (.inr (.inl (76, 277)))), some (.inl a), some (.inl b)]) (st' := [.inl ((f 280 17) - (1 : Int32)), .inl (0 : Int32), .inl a]) (m' := (f, l)) rfl rfl (fl_bo rfl) rfl ?_
  refine fl_Tq.cal rfl rfl (fl_bo rfl) rfl ?_
  refine r_isIn_q  ?_
  show fl_Tq _ 274 14 [some (.inr (.inr (.inl (76, 277)))), some (.inl a), some (.inl b)] [.inl (r_isIn_v a (0 : Int32) ((f 280 17) - (1 : Int32)))] (f, l) _
  by_cases h1 : (r_isIn_v a (0 : Int32) ((f 280 17) - (1 : Int32))).toInt = 0
  · refine fl_Tq.zt rfl (fl_bo rfl) (c1_eq_t h1) rfl ?_
    refine fl_Tq.stp (pc' := 45) (lv' := [some (.inr (.inr (.inl (76, 277)))), some (.inl a), some (.inl b)]) (st' := [.inl (-1000000000 : Int32)]) (m' := (f, l)) rfl rfl (fl_bo rfl) rfl ?_
    exact fl_Tq.ret rfl rfl rfl (k h1)
  · refine fl_Tq.zf rfl (fl_bo rfl) (c1_eq_f h1) rfl ?_
    refine fl_Tq.stp (pc' := 18) (lv' := [some (.inr (.inr (.inl (76, 277)))), some (.inl a), some (.inl b)]) (st' := [.inl b]) (m' := (f, l)) rfl rfl (fl_bo rfl) rfl ?_
    refine fl_Tq.cI (c := (0 : Int32)) rfl (by decide +kernel) (fl_bo rfl) ?_
    refine fl_Tq.cI (c := (1 : Int32)) rfl (by decide +kernel) (fl_bo rfl) ?_
    refine fl_Tq.cal rfl rfl (fl_bo rfl) rfl ?_
    refine r_isIn_q  ?_
    show fl_Tq _ 274 23 [some (.inr (.inr (.inl (76, 277)))), some (.inl a), some (.inl b)] [.inl (r_isIn_v b (0 : Int32) (1 : Int32))] (f, l) _
    by_cases h2 : (r_isIn_v b (0 : Int32) (1 : Int32)).toInt = 0
    · refine fl_Tq.zt rfl (fl_bo rfl) (c1_eq_t h2) rfl ?_
      refine fl_Tq.stp (pc' := 45) (lv' := [some (.inr (.inr (.inl (76, 277)))), some (.inl a), some (.inl b)]) (st' := [.inl (-1000000000 : Int32)]) (m' := (f, l)) rfl rfl (fl_bo rfl) rfl ?_
      exact fl_Tq.ret rfl rfl rfl (k1 h1 h2)
    · refine fl_Tq.zf rfl (fl_bo rfl) (c1_eq_f h2) rfl ?_
      exact k2 h1 h2
theorem y_zoneOf_B {L : Nat} {xs : Nat → Int32} {f : t2_F} {l : t2_L} {Q : Option fl_V → fl_M → Prop} {a b : Int32} {A B : Nat} (hA : a.toInt = (A : Int)) (hA1 : A < 6) (hB : b.toInt = (B : Int)) (hB1 : B < 2) (k : Q (some (.inl (f 280 (67 + 2 * A + B)))) (f, l)) : fl_Tq (pw_P L xs) 274 26 [some (.inr (.inr (.inl (76, 277)))), some (.inl a), some (.inl b)] [] (f, l) Q := by
  refine fl_Tq.stp (pc' := 27) (lv' := [some (.inr (.inr (.inl (76, 277)))), some (.inl a), some (.inl b)]) (st' := [.inr (.inr (.inl (76, 277)))]) (m' := (f, l)) rfl rfl (fl_bo rfl) rfl ?_
  refine fl_Tq.stp (pc' := 30) (lv' := [some (.inr (.inr (.inl (76, 277)))), some (.inl a), some (.inl b)]) (st' := [.inr (.inr (.inl (79, 280)))]) (m' := (f, l)) rfl rfl (fl_bo rfl) rfl ?_
  refine fl_Tq.cB (c := (67 : Int32)) rfl (by decide +kernel) (fl_bo rfl) ?_
  refine fl_Tq.cI (c := (2 : Int32)) rfl (by decide +kernel) (fl_bo rfl) ?_
  refine fl_Tq.stp (pc' := 34) (lv' := [some (.inr (.inr (.inl (76, 277)))), some (.inl a), some (.inl b)]) (st' := [.inl a, .inl (2 : Int32), .inl (67 : Int32), .inr (.inr (.inl (79, 280)))]) (m' := (f, l)) rfl rfl (fl_bo rfl) rfl ?_
  refine fl_Tq.stp (pc' := 35) (lv' := [some (.inr (.inr (.inl (76, 277)))), some (.inl a), some (.inl b)]) (st' := [.inl ((2 : Int32) * a), .inl (67 : Int32), .inr (.inr (.inl (79, 280)))]) (m' := (f, l)) rfl rfl (fl_bo rfl) rfl ?_
  refine fl_Tq.stp (pc' := 36) (lv' := [some (.inr (.inr (.inl (76, 277)))), some (.inl a), some (.inl b)]) (st' := [.inl ((67 : Int32) + ((2 : Int32) * a)), .inr (.inr (.inl (79, 280)))]) (m' := (f, l)) rfl rfl (fl_bo rfl) rfl ?_
  refine fl_Tq.stp (pc' := 37) (lv' := [some (.inr (.inr (.inl (76, 277)))), some (.inl a), some (.inl b)]) (st' := [.inl b, .inl ((67 : Int32) + ((2 : Int32) * a)), .inr (.inr (.inl (79, 280)))]) (m' := (f, l)) rfl rfl (fl_bo rfl) rfl ?_
  refine fl_Tq.stp (pc' := 38) (lv' := [some (.inr (.inr (.inl (76, 277)))), some (.inl a), some (.inl b)]) (st' := [.inl (((67 : Int32) + ((2 : Int32) * a)) + b), .inr (.inr (.inl (79, 280)))]) (m' := (f, l)) rfl rfl (fl_bo rfl) rfl ?_
  refine fl_Tq.ldV (p := 280) (τ := 79) (n := 29780) (z := (0, 0, 0)) (k := 67 + 2 * A + B) (v := f 280 (67 + 2 * A + B)) rfl (fl_bo rfl) rfl (t2_mr (M := 2) (K := 67) (by decide +kernel) (by decide +kernel) (by decide) (by decide) hA hB (by omega) (by omega)) (by omega) rfl ?_
  refine fl_Tq.stp (pc' := 45) (lv' := [some (.inr (.inr (.inl (76, 277)))), some (.inl a), some (.inl b)]) (st' := [.inl (f 280 (67 + 2 * A + B))]) (m' := (f, l)) rfl rfl (fl_bo rfl) rfl ?_
  exact fl_Tq.ret rfl rfl rfl k
/-! ===== zoneOf, on both sides ===== -/
theorem t2_cmp_26 {L : Nat} {xs : Nat → Int32} {f : t2_F} {l : t2_L} {a b : Int32} (_hall : ∀ c ∈ at_CM ++ at_CA, at_Valid at_XI (pw_P L xs) c) (hg : t2_Z (f, l)) : fl_Tq (pw_P L xs) 127 0 (fl_args (am_mxl (pw_P L xs) 127) [lx_x, .inl a, .inl b]) [] (f, l) (t2_End L xs 274 [at_this, .inl a, .inl b]) := by
  have I : c0_I f f := hg.2.1
  have c0 : (0 : Int32).toInt = 0 := rfl
  have c1 : (1 : Int32).toInt = 1 := by decide +kernel
  have z : f 3 6 = f 280 17 := I.2.2.1.1.2.1.1
  have hn : 0 ≤ (f 280 17).toInt ∧ (f 280 17).toInt ≤ 6 := I.2.2.2.2.2.2.2.1.1
  have ed : (f 280 17 - (1 : Int32)).toInt = (f 280 17).toInt - 1 := t2_dec (by omega)
  by_cases h : (0 ≤ a.toInt ∧ a.toInt ≤ (f 280 17).toInt - 1) ∧ 0 ≤ b.toInt ∧ b.toInt ≤ 1
  · obtain ⟨A, hA⟩ := t2_nat h.1.1
    obtain ⟨B, hB⟩ := t2_nat h.2.1
    have hA1 : A < 6 := by omega
    have hB1 : B < 2 := by omega
    have e : f 7 (A * 2 + B) = f 280 (67 + 2 * A + B) := by
      rw [I.2.2.1.1.2.1.2.1 (A * 2 + B) (by omega)]
      exact congrArg _ (by omega)
    refine t2_qq (y := f 280 (67 + 2 * A + B)) hg (fun Q k => ?_) (fun Q k => ?_)
    · show fl_Tq (pw_P L xs) 127 0 [some (.inr (.inr (.inl (0, 0)))), some (.inl a), some (.inl b)] [] (f, l) Q
      refine x_zoneOf_A (fun h1 => ?_) (fun _ h1 => ?_) (fun _ _ => x_zoneOf_B hA hA1 hB hB1 ?_)
      · rw [t2_w0, z, c0, ed] at h1
        exact absurd h.1 h1
      · rw [t2_w0, c0, c1] at h1
        exact absurd h.2 h1
      · rw [e]
        exact k
    · show fl_Tq (pw_P L xs) 274 0 [some (.inr (.inr (.inl (76, 277)))), some (.inl a), some (.inl b)] [] (f, l) Q
      refine y_zoneOf_A (fun h1 => ?_) (fun _ h1 => ?_) (fun _ _ => y_zoneOf_B hA hA1 hB hB1 k)
      · rw [r_i0, c0, ed] at h1
        exact absurd h.1 h1
      · rw [r_i0, c0, c1] at h1
        exact absurd h.2 h1
  · refine t2_qq (y := (-1000000000 : Int32)) hg (fun Q k => ?_) (fun Q k => ?_)
    · show fl_Tq (pw_P L xs) 127 0 [some (.inr (.inr (.inl (0, 0)))), some (.inl a), some (.inl b)] [] (f, l) Q
      refine x_zoneOf_A (fun _ => k) (fun _ _ => k) (fun h1 h2 => ?_)
      rw [t2_w0, z, c0, ed, Classical.not_not] at h1
      rw [t2_w0, c0, c1, Classical.not_not] at h2
      exact absurd ⟨h1, h2⟩ h
    · show fl_Tq (pw_P L xs) 274 0 [some (.inr (.inr (.inl (76, 277)))), some (.inl a), some (.inl b)] [] (f, l) Q
      refine y_zoneOf_A (fun _ => k) (fun _ _ => k) (fun h1 h2 => ?_)
      rw [r_i0, c0, ed, Classical.not_not] at h1
      rw [r_i0, c0, c1, Classical.not_not] at h2
      exact absurd ⟨h1, h2⟩ h

end

/-! 95.05.06p27.lean.txt -/
section
theorem x_cycles_A {L : Nat} {xs : Nat → Int32} {f : t2_F} {l : t2_L} {Q : Option fl_V → fl_M → Prop} {a b : Int32}  (k : ((c0_hasCell_v f a).toInt = 0) → Q (some (.inl (-1 : Int32))) (f, l)) (k1 : (¬ ((c0_hasCell_v f a).toInt = 0)) → ((t2_within_v b (0 : Int32) (10 : Int32)).toInt = 0) → Q (some (.inl (-1 : Int32))) (f, l)) (k2 : (¬ ((c0_hasCell_v f a).toInt = 0)) → (¬ ((t2_within_v b (0 : Int32) (10 : Int32)).toInt = 0)) → fl_Tq (pw_P L xs) 128 21 [some (.inr (.inr (.inl (0, 0)))), some (.inl a), some (.inl b)] [] (f, l) Q) : fl_Tq (pw_P L xs) 128 0 [some (.inr (.inr (.inl (0, 0)))), some (.inl a), some (.inl b)] [] (f, l) Q := by
  refine fl_Tq.stp (pc' := 1) (lv' := [some (.inr (.inr (.inl (0, 0)))), some (.inl a), some (.inl b)]) (st' := [.inr (.inr (.inl (0, 0)))]) (m' := (f, l)) rfl rfl (fl_bo rfl) rfl ?_
  refine fl_Tq.stp (pc' := 4) (lv' := [some (.inr (.inr (.inl (0, 0)))), some (.inl a), some (.inl b)]) (st' := [.inr (.inr (.inl (1, 1)))]) (m' := (f, l)) rfl rfl (fl_bo rfl) rfl ?_
  refine fl_Tq.stp (pc' := 5) (lv' := [some (.inr (.inr (.inl (0, 0)))), some (.inl a), some (.inl b)]) (st' := [.inl a, .inr (.inr (.inl (1, 1)))]) (m' := (f, l)) rfl rfl (fl_bo rfl) rfl ?_
  refine fl_Tq.cal rfl rfl (fl_bo rfl) rfl ?_
  refine c0_hasCell_q  ?_
  show fl_Tq _ 128 8 [some (.inr (.inr (.inl (0, 0)))), some (.inl a), some (.inl b)] [.inl (c0_hasCell_v f a)] (f, l) _
  by_cases h1 : (c0_hasCell_v f a).toInt = 0
  · refine fl_Tq.zt rfl (fl_bo rfl) (c1_eq_t h1) rfl ?_
    refine fl_Tq.cI (c := (-1 : Int32)) rfl (by decide +kernel) (fl_bo rfl) ?_
    exact fl_Tq.ret rfl rfl rfl (k h1)
  · refine fl_Tq.zf rfl (fl_bo rfl) (c1_eq_f h1) rfl ?_
    refine fl_Tq.stp (pc' := 12) (lv' := [some (.inr (.inr (.inl (0, 0)))), some (.inl a), some (.inl b)]) (st' := [.inl b]) (m' := (f, l)) rfl rfl (fl_bo rfl) rfl ?_
    refine fl_Tq.cI (c := (0 : Int32)) rfl (by decide +kernel) (fl_bo rfl) ?_
    refine fl_Tq.cB (c := (10 : Int32)) rfl (by decide +kernel) (fl_bo rfl) ?_
    refine fl_Tq.cal rfl rfl (fl_bo rfl) rfl ?_
    refine t2_within_q  ?_
    show fl_Tq _ 128 18 [some (.inr (.inr (.inl (0, 0)))), some (.inl a), some (.inl b)] [.inl (t2_within_v b (0 : Int32) (10 : Int32))] (f, l) _
    by_cases h2 : (t2_within_v b (0 : Int32) (10 : Int32)).toInt = 0
    · refine fl_Tq.zt rfl (fl_bo rfl) (c1_eq_t h2) rfl ?_
      refine fl_Tq.cI (c := (-1 : Int32)) rfl (by decide +kernel) (fl_bo rfl) ?_
      exact fl_Tq.ret rfl rfl rfl (k1 h1 h2)
    · refine fl_Tq.zf rfl (fl_bo rfl) (c1_eq_f h2) rfl ?_
      exact k2 h1 h2
theorem x_cycles_B {L : Nat} {xs : Nat → Int32} {f : t2_F} {l : t2_L} {Q : Option fl_V → fl_M → Prop} {a b : Int32} {A B : Nat} (hA : a.toInt = (A : Int)) (hA1 : A < 16) (hB : b.toInt = (B : Int)) (hB1 : B < 11) (k : Q (some (.inl (f (21 + 4 * A) B))) (f, l)) : fl_Tq (pw_P L xs) 128 21 [some (.inr (.inr (.inl (0, 0)))), some (.inl a), some (.inl b)] [] (f, l) Q := by
  refine fl_Tq.stp (pc' := 22) (lv' := [some (.inr (.inr (.inl (0, 0)))), some (.inl a), some (.inl b)]) (st' := [.inr (.inr (.inl (0, 0)))]) (m' := (f, l)) rfl rfl (fl_bo rfl) rfl ?_
  refine fl_Tq.stp (pc' := 25) (lv' := [some (.inr (.inr (.inl (0, 0)))), some (.inl a), some (.inl b)]) (st' := [.inr (.inr (.inl (1, 1)))]) (m' := (f, l)) rfl rfl (fl_bo rfl) rfl ?_
  refine fl_Tq.stp (pc' := 28) (lv' := [some (.inr (.inr (.inl (0, 0)))), some (.inl a), some (.inl b)]) (st' := [.inr (.inr (.inl (2, 2)))]) (m' := (f, l)) rfl rfl (fl_bo rfl) rfl ?_
  refine fl_Tq.stp (pc' := 29) (lv' := [some (.inr (.inr (.inl (0, 0)))), some (.inl a), some (.inl b)]) (st' := [.inl a, .inr (.inr (.inl (2, 2)))]) (m' := (f, l)) rfl rfl (fl_bo rfl) rfl ?_
  refine fl_Tq.qld (p := 2) (τ := 2) (n := 16) (t := 18) (b := 16) (d := 3) (k := A) rfl (fl_bo rfl) rfl hA hA1 ?_
  show fl_Tq _ 128 30 [some (.inr (.inr (.inl (0, 0)))), some (.inl a), some (.inl b)] [.inr (.inr (.inl (18, 18 + 4 * A)))] (f, l) _
  refine fl_Tq.gfR (d := 1) (p' := 19 + 4 * A) rfl (fl_oks_ok ⟨(t2_kc0 hA1), True.intro⟩) rfl (by omega) ?_
  refine fl_Tq.gfR (d := 2) (p' := 21 + 4 * A) rfl (fl_oks_ok ⟨(t2_kt0 hA1), True.intro⟩) rfl (by omega) ?_
  refine fl_Tq.stp (pc' := 37) (lv' := [some (.inr (.inr (.inl (0, 0)))), some (.inl a), some (.inl b)]) (st' := [.inl b, .inr (.inr (.inl (21, 21 + 4 * A)))]) (m' := (f, l)) rfl rfl (fl_oks_ok ⟨(t2_ky0 hA1), True.intro⟩) rfl ?_
  refine fl_Tq.ldV (p := 21 + 4 * A) (τ := 21) (n := 11) (z := (0, 0, 0)) (k := B) (v := f (21 + 4 * A) B) rfl (fl_oks_ok ⟨True.intro, (t2_ky0 hA1), True.intro⟩) rfl hB hB1 rfl ?_
  refine fl_Tq.stp (pc' := 42) (lv' := [some (.inr (.inr (.inl (0, 0)))), some (.inl a), some (.inl b)]) (st' := [.inl (f (21 + 4 * A) B)]) (m' := (f, l)) rfl rfl (fl_bo rfl) rfl ?_
  exact fl_Tq.ret rfl rfl rfl k
theorem y_cycles_A {L : Nat} {xs : Nat → Int32} {f : t2_F} {l : t2_L} {Q : Option fl_V → fl_M → Prop} {a b : Int32}  (k : ((r_isCell_v f a).toInt = 0) → Q (some (.inl (-1 : Int32))) (f, l)) (k1 : (¬ ((r_isCell_v f a).toInt = 0)) → ((r_isIn_v b (0 : Int32) (10 : Int32)).toInt = 0) → Q (some (.inl (-1 : Int32))) (f, l)) (k2 : (¬ ((r_isCell_v f a).toInt = 0)) → (¬ ((r_isIn_v b (0 : Int32) (10 : Int32)).toInt = 0)) → fl_Tq (pw_P L xs) 275 18 [some (.inr (.inr (.inl (76, 277)))), some (.inl a), some (.inl b)] [] (f, l) Q) : fl_Tq (pw_P L xs) 275 0 [some (.inr (.inr (.inl (76, 277)))), some (.inl a), some (.inl b)] [] (f, l) Q := by
  refine fl_Tq.stp (pc' := 1) (lv' := [some (.inr (.inr (.inl (76, 277)))), some (.inl a), some (.inl b)]) (st' := [.inr (.inr (.inl (76, 277)))]) (m' := (f, l)) rfl rfl (fl_bo rfl) rfl ?_
  refine fl_Tq.stp (pc' := 2) (lv' := [some (.inr (.inr (.inl (76, 277)))), some (.inl a), some (.inl b)]) (st' := [.inl a, .inr (.inr (.inl (76, 277)))]) (m' := (f, l)) rfl rfl (fl_bo rfl) rfl ?_
  refine fl_Tq.cal rfl rfl (fl_bo rfl) rfl ?_
  refine r_isCell_q  ?_
  show fl_Tq _ 275 5 [some (.inr (.inr (.inl (76, 277)))), some (.inl a), some (.inl b)] [.inl (r_isCell_v f a)] (f, l) _
  by_cases h1 : (r_isCell_v f a).toInt = 0
  · refine fl_Tq.zt rfl (fl_bo rfl) (c1_eq_t h1) rfl ?_
    refine fl_Tq.cI (c := (-1 : Int32)) rfl (by decide +kernel) (fl_bo rfl) ?_
    exact fl_Tq.ret rfl rfl rfl (k h1)
  · refine fl_Tq.zf rfl (fl_bo rfl) (c1_eq_f h1) rfl ?_
    refine fl_Tq.stp (pc' := 9) (lv' := [some (.inr (.inr (.inl (76, 277)))), some (.inl a), some (.inl b)]) (st' := [.inl b]) (m' := (f, l)) rfl rfl (fl_bo rfl) rfl ?_
    refine fl_Tq.cI (c := (0 : Int32)) rfl (by decide +kernel) (fl_bo rfl) ?_
    refine fl_Tq.cB (c := (10 : Int32)) rfl (by decide +kernel) (fl_bo rfl) ?_
    refine fl_Tq.cal rfl rfl (fl_bo rfl) rfl ?_
    refine r_isIn_q  ?_
    show fl_Tq _ 275 15 [some (.inr (.inr (.inl (76, 277)))), some (.inl a), some (.inl b)] [.inl (r_isIn_v b (0 : Int32) (10 : Int32))] (f, l) _
    by_cases h2 : (r_isIn_v b (0 : Int32) (10 : Int32)).toInt = 0
    · refine fl_Tq.zt rfl (fl_bo rfl) (c1_eq_t h2) rfl ?_
      refine fl_Tq.cI (c := (-1 : Int32)) rfl (by decide +kernel) (fl_bo rfl) ?_
      exact fl_Tq.ret rfl rfl rfl (k1 h1 h2)
    · refine fl_Tq.zf rfl (fl_bo rfl) (c1_eq_f h2) rfl ?_
      exact k2 h1 h2
theorem y_cycles_B {L : Nat} {xs : Nat → Int32} {f : t2_F} {l : t2_L} {Q : Option fl_V → fl_M → Prop} {a b : Int32} {A B : Nat} (hA : a.toInt = (A : Int)) (hA1 : A < 16) (hB : b.toInt = (B : Int)) (hB1 : B < 11) (k : Q (some (.inl (f 280 (444 + 61 * A + (49 + B))))) (f, l)) : fl_Tq (pw_P L xs) 275 18 [some (.inr (.inr (.inl (76, 277)))), some (.inl a), some (.inl b)] [] (f, l) Q := by
  refine fl_Tq.stp (pc' := 19) (lv' := [some (.inr (.inr (.inl (76, 277)))), some (.inl a), some (.inl b)]) (st' := [.inr (.inr (.inl (76, 277)))]) (m' := (f, l)) rfl rfl (fl_bo rfl) rfl ?_
  refine fl_Tq.stp (pc' := 20) (lv' := [some (.inr (.inr (.inl (76, 277)))), some (.inl a), some (.inl b)]) (st' := [.inl a, .inr (.inr (.inl (76, 277)))]) (m' := (f, l)) rfl rfl (fl_bo rfl) rfl ?_
  refine fl_Tq.cB (c := (49 : Int32)) rfl (by decide +kernel) (fl_bo rfl) ?_
  refine fl_Tq.stp (pc' := 23) (lv' := [some (.inr (.inr (.inl (76, 277)))), some (.inl a), some (.inl b)]) (st' := [.inl b, .inl (49 : Int32), .inl a, .inr (.inr (.inl (76, 277)))]) (m' := (f, l)) rfl rfl (fl_bo rfl) rfl ?_
  refine fl_Tq.stp (pc' := 24) (lv' := [some (.inr (.inr (.inl (76, 277)))), some (.inl a), some (.inl b)]) (st' := [.inl ((49 : Int32) + b), .inl a, .inr (.inr (.inl (76, 277)))]) (m' := (f, l)) rfl rfl (fl_bo rfl) rfl ?_
  refine fl_Tq.cal rfl rfl (fl_bo rfl) rfl ?_
  refine t2_get (C := A) (W := 49 + B) (v := f 280 (444 + 61 * A + (49 + B))) hA (t2_ia (by decide +kernel) hB (by omega)) hA1 (by omega) rfl ?_
  show fl_Tq _ 275 27 [some (.inr (.inr (.inl (76, 277)))), some (.inl a), some (.inl b)] [.inl (f 280 (444 + 61 * A + (49 + B)))] (f, l) _
  refine fl_Tq.stp (pc' := 31) (lv' := [some (.inr (.inr (.inl (76, 277)))), some (.inl a), some (.inl b)]) (st' := [.inl (f 280 (444 + 61 * A + (49 + B)))]) (m' := (f, l)) rfl rfl (fl_bo rfl) rfl ?_
  exact fl_Tq.ret rfl rfl rfl k
/-! ===== cycles, on both sides ===== -/
theorem t2_cmp_27 {L : Nat} {xs : Nat → Int32} {f : t2_F} {l : t2_L} {a b : Int32} (_hall : ∀ c ∈ at_CM ++ at_CA, at_Valid at_XI (pw_P L xs) c) (hg : t2_Z (f, l)) : fl_Tq (pw_P L xs) 128 0 (fl_args (am_mxl (pw_P L xs) 128) [lx_x, .inl a, .inl b]) [] (f, l) (t2_End L xs 275 [at_this, .inl a, .inl b]) := by
  have I : c0_I f f := hg.2.1
  have c0 : (0 : Int32).toInt = 0 := rfl
  have c10 : (10 : Int32).toInt = 10 := by decide +kernel
  have e5 : f 1 5 = f 280 2 := I.1.1.1
  have n16 := I.rhu.1
  have n5 : 0 ≤ (f 1 5).toInt ∧ (f 1 5).toInt ≤ 16 := I.hc
  by_cases h : (0 ≤ a.toInt ∧ a.toInt < (f 280 2).toInt) ∧ 0 ≤ b.toInt ∧ b.toInt ≤ 10
  · obtain ⟨A, hA⟩ := t2_nat h.1.1
    obtain ⟨B, hB⟩ := t2_nat h.2.1
    have hA1 : A < 16 := by omega
    have hB1 : B < 11 := by omega
    have e : f (21 + 4 * A) B = f 280 (444 + 61 * A + (49 + B)) := (I.2.2.2.1 A (by omega)).2.2.2.2.2.2.1 B hB1
    refine t2_qq (y := f 280 (444 + 61 * A + (49 + B))) hg (fun Q k => ?_) (fun Q k => ?_)
    · show fl_Tq (pw_P L xs) 128 0 [some (.inr (.inr (.inl (0, 0)))), some (.inl a), some (.inl b)] [] (f, l) Q
      refine x_cycles_A (fun h1 => ?_) (fun _ h1 => ?_) (fun _ _ => x_cycles_B hA hA1 hB hB1 ?_)
      · rw [t2_isc n5, e5] at h1
        exact absurd h.1 h1
      · rw [t2_w0, c0, c10] at h1
        exact absurd h.2 h1
      · rw [e]
        exact k
    · show fl_Tq (pw_P L xs) 275 0 [some (.inr (.inr (.inl (76, 277)))), some (.inl a), some (.inl b)] [] (f, l) Q
      refine y_cycles_A (fun h1 => ?_) (fun _ h1 => ?_) (fun _ _ => y_cycles_B hA hA1 hB hB1 k)
      · rw [r_isc n16] at h1
        exact absurd h.1 h1
      · rw [r_i0, c0, c10] at h1
        exact absurd h.2 h1
  · refine t2_qq (y := (-1 : Int32)) hg (fun Q k => ?_) (fun Q k => ?_)
    · show fl_Tq (pw_P L xs) 128 0 [some (.inr (.inr (.inl (0, 0)))), some (.inl a), some (.inl b)] [] (f, l) Q
      refine x_cycles_A (fun _ => k) (fun _ _ => k) (fun h1 h2 => ?_)
      rw [t2_isc n5, e5, Classical.not_not] at h1
      rw [t2_w0, c0, c10, Classical.not_not] at h2
      exact absurd ⟨h1, h2⟩ h
    · show fl_Tq (pw_P L xs) 275 0 [some (.inr (.inr (.inl (76, 277)))), some (.inl a), some (.inl b)] [] (f, l) Q
      refine y_cycles_A (fun _ => k) (fun _ _ => k) (fun h1 h2 => ?_)
      rw [r_isc n16, Classical.not_not] at h1
      rw [r_i0, c0, c10, Classical.not_not] at h2
      exact absurd ⟨h1, h2⟩ h

end

/-! 95.05.07p28.lean.txt -/
section
theorem x_turn_A {L : Nat} {xs : Nat → Int32} {f : t2_F} {l : t2_L} {Q : Option fl_V → fl_M → Prop} {a b : Int32}  (k : ((c0_hasCell_v f a).toInt = 0) → Q (some (.inl (-1 : Int32))) (f, l)) (k1 : (¬ ((c0_hasCell_v f a).toInt = 0)) → fl_Tq (pw_P L xs) 129 13 [some (.inr (.inr (.inl (0, 0)))), some (.inl a), some (.inl b), none] [] (f, l) Q) : fl_Tq (pw_P L xs) 129 0 [some (.inr (.inr (.inl (0, 0)))), some (.inl a), some (.inl b), none] [] (f, l) Q := by
  refine fl_Tq.stp (pc' := 1) (lv' := [some (.inr (.inr (.inl (0, 0)))), some (.inl a), some (.inl b), none]) (st' := [.inr (.inr (.inl (0, 0)))]) (m' := (f, l)) rfl rfl (fl_bo rfl) rfl ?_
  refine fl_Tq.stp (pc' := 4) (lv' := [some (.inr (.inr (.inl (0, 0)))), some (.inl a), some (.inl b), none]) (st' := [.inr (.inr (.inl (1, 1)))]) (m' := (f, l)) rfl rfl (fl_bo rfl) rfl ?_
  refine fl_Tq.stp (pc' := 5) (lv' := [some (.inr (.inr (.inl (0, 0)))), some (.inl a), some (.inl b), none]) (st' := [.inl a, .inr (.inr (.inl (1, 1)))]) (m' := (f, l)) rfl rfl (fl_bo rfl) rfl ?_
  refine fl_Tq.cal rfl rfl (fl_bo rfl) rfl ?_
  refine c0_hasCell_q  ?_
  show fl_Tq _ 129 8 [some (.inr (.inr (.inl (0, 0)))), some (.inl a), some (.inl b), none] [.inl (c0_hasCell_v f a)] (f, l) _
  by_cases h1 : (c0_hasCell_v f a).toInt = 0
  · refine fl_Tq.zf rfl (fl_bo rfl) (c1_ne_f h1) rfl ?_
    refine fl_Tq.cI (c := (-1 : Int32)) rfl (by decide +kernel) (fl_bo rfl) ?_
    exact fl_Tq.ret rfl rfl rfl (k h1)
  · refine fl_Tq.zt rfl (fl_bo rfl) (c1_ne_t h1) rfl ?_
    exact k1 h1
theorem x_turn_B {L : Nat} {xs : Nat → Int32} {f : t2_F} {l : t2_L} {Q : Option fl_V → fl_M → Prop} {a b : Int32} {A : Nat} (hA : a.toInt = (A : Int)) (hA1 : A < 16) (k : ((t2_within_v b (0 : Int32) ((f (19 + 4 * A) 2) - (1 : Int32))).toInt = 0) → Q (some (.inl (-1 : Int32))) (f, l)) (k1 : (¬ ((t2_within_v b (0 : Int32) ((f (19 + 4 * A) 2) - (1 : Int32))).toInt = 0)) → fl_Tq (pw_P L xs) 129 40 [some (.inr (.inr (.inl (0, 0)))), some (.inl a), some (.inl b), some (.inr (.inr (.inl (19, 19 + 4 * A))))] [] (f, l) Q) : fl_Tq (pw_P L xs) 129 13 [some (.inr (.inr (.inl (0, 0)))), some (.inl a), some (.inl b), none] [] (f, l) Q := by
  refine fl_Tq.stp (pc' := 14) (lv' := [some (.inr (.inr (.inl (0, 0)))), some (.inl a), some (.inl b), none]) (st' := [.inr (.inr (.inl (0, 0)))]) (m' := (f, l)) rfl rfl (fl_bo rfl) rfl ?_
  refine fl_Tq.stp (pc' := 17) (lv' := [some (.inr (.inr (.inl (0, 0)))), some (.inl a), some (.inl b), none]) (st' := [.inr (.inr (.inl (1, 1)))]) (m' := (f, l)) rfl rfl (fl_bo rfl) rfl ?_
  refine fl_Tq.stp (pc' := 20) (lv' := [some (.inr (.inr (.inl (0, 0)))), some (.inl a), some (.inl b), none]) (st' := [.inr (.inr (.inl (2, 2)))]) (m' := (f, l)) rfl rfl (fl_bo rfl) rfl ?_
  refine fl_Tq.stp (pc' := 21) (lv' := [some (.inr (.inr (.inl (0, 0)))), some (.inl a), some (.inl b), none]) (st' := [.inl a, .inr (.inr (.inl (2, 2)))]) (m' := (f, l)) rfl rfl (fl_bo rfl) rfl ?_
  refine fl_Tq.qld (p := 2) (τ := 2) (n := 16) (t := 18) (b := 16) (d := 3) (k := A) rfl (fl_bo rfl) rfl hA hA1 ?_
  show fl_Tq _ 129 22 [some (.inr (.inr (.inl (0, 0)))), some (.inl a), some (.inl b), none] [.inr (.inr (.inl (18, 18 + 4 * A)))] (f, l) _
  refine fl_Tq.gfR (d := 1) (p' := 19 + 4 * A) rfl (fl_oks_ok ⟨(t2_kc0 hA1), True.intro⟩) rfl (by omega) ?_
  refine fl_Tq.stp (pc' := 26) (lv' := [some (.inr (.inr (.inl (0, 0)))), some (.inl a), some (.inl b), some (.inr (.inr (.inl (19, 19 + 4 * A))))]) (st' := []) (m' := (f, l)) rfl rfl (fl_oks_ok ⟨(t2_kt0 hA1), True.intro⟩) rfl ?_
  refine fl_Tq.stp (pc' := 27) (lv' := [some (.inr (.inr (.inl (0, 0)))), some (.inl a), some (.inl b), some (.inr (.inr (.inl (19, 19 + 4 * A))))]) (st' := [.inl b]) (m' := (f, l)) rfl rfl (fl_bo rfl) rfl ?_
  refine fl_Tq.cI (c := (0 : Int32)) rfl (by decide +kernel) (fl_bo rfl) ?_
  refine fl_Tq.stp (pc' := 29) (lv' := [some (.inr (.inr (.inl (0, 0)))), some (.inl a), some (.inl b), some (.inr (.inr (.inl (19, 19 + 4 * A))))]) (st' := [.inr (.inr (.inl (19, 19 + 4 * A))), .inl (0 : Int32), .inl b]) (m' := (f, l)) rfl rfl (fl_bo rfl) rfl ?_
  refine fl_Tq.gfV (k := 2) (v := f (19 + 4 * A) 2) rfl (fl_oks_ok ⟨(t2_kt0 hA1), True.intro, True.intro, True.intro⟩) rfl rfl ?_
  refine fl_Tq.cI (c := (1 : Int32)) rfl (by decide +kernel) (fl_bo rfl) ?_
  refine fl_Tq.stp (pc' := 34) (lv' := [some (.inr (.inr (.inl (0, 0)))), some (.inl a), some (.inl b), some (.inr (.inr (.inl (19, 19 + 4 * A))))]) (st' := [.inl ((f (19 + 4 * A) 2) - (1 : Int32)), .inl (0 : Int32), .inl b]) (m' := (f, l)) rfl rfl (fl_bo rfl) rfl ?_
  refine fl_Tq.cal rfl rfl (fl_bo rfl) rfl ?_
  refine t2_within_q  ?_
  show fl_Tq _ 129 37 [some (.inr (.inr (.inl (0, 0)))), some (.inl a), some (.inl b), some (.inr (.inr (.inl (19, 19 + 4 * A))))] [.inl (t2_within_v b (0 : Int32) ((f (19 + 4 * A) 2) - (1 : Int32)))] (f, l) _
  by_cases h1 : (t2_within_v b (0 : Int32) ((f (19 + 4 * A) 2) - (1 : Int32))).toInt = 0
  · refine fl_Tq.zt rfl (fl_bo rfl) (c1_eq_t h1) rfl ?_
    refine fl_Tq.cI (c := (-1 : Int32)) rfl (by decide +kernel) (fl_bo rfl) ?_
    exact fl_Tq.ret rfl rfl rfl (k h1)
  · refine fl_Tq.zf rfl (fl_bo rfl) (c1_eq_f h1) rfl ?_
    exact k1 h1
theorem x_turn_C {L : Nat} {xs : Nat → Int32} {f : t2_F} {l : t2_L} {Q : Option fl_V → fl_M → Prop} {a b : Int32} {A B : Nat} (hA : a.toInt = (A : Int)) (hA1 : A < 16) (hB : b.toInt = (B : Int)) (hB1 : B < 32) (k : Q (some (.inl (f (20 + 4 * A) B))) (f, l)) : fl_Tq (pw_P L xs) 129 40 [some (.inr (.inr (.inl (0, 0)))), some (.inl a), some (.inl b), some (.inr (.inr (.inl (19, 19 + 4 * A))))] [] (f, l) Q := by
  refine fl_Tq.stp (pc' := 41) (lv' := [some (.inr (.inr (.inl (0, 0)))), some (.inl a), some (.inl b), some (.inr (.inr (.inl (19, 19 + 4 * A))))]) (st' := [.inr (.inr (.inl (19, 19 + 4 * A)))]) (m' := (f, l)) rfl rfl (fl_bo rfl) rfl ?_
  refine fl_Tq.gfR (d := 1) (p' := 20 + 4 * A) rfl (fl_oks_ok ⟨(t2_kt0 hA1), True.intro⟩) rfl (by omega) ?_
  refine fl_Tq.stp (pc' := 45) (lv' := [some (.inr (.inr (.inl (0, 0)))), some (.inl a), some (.inl b), some (.inr (.inr (.inl (19, 19 + 4 * A))))]) (st' := [.inl b, .inr (.inr (.inl (20, 20 + 4 * A)))]) (m' := (f, l)) rfl rfl (fl_oks_ok ⟨(t2_ka0 hA1), True.intro⟩) rfl ?_
  refine fl_Tq.ldV (p := 20 + 4 * A) (τ := 20) (n := 32) (z := (0, 0, 0)) (k := B) (v := f (20 + 4 * A) B) rfl (fl_oks_ok ⟨True.intro, (t2_ka0 hA1), True.intro⟩) rfl hB hB1 rfl ?_
  refine fl_Tq.stp (pc' := 50) (lv' := [some (.inr (.inr (.inl (0, 0)))), some (.inl a), some (.inl b), some (.inr (.inr (.inl (19, 19 + 4 * A))))]) (st' := [.inl (f (20 + 4 * A) B)]) (m' := (f, l)) rfl rfl (fl_bo rfl) rfl ?_
  exact fl_Tq.ret rfl rfl rfl k
theorem y_turn_A {L : Nat} {xs : Nat → Int32} {f : t2_F} {l : t2_L} {Q : Option fl_V → fl_M → Prop} {a b : Int32}  (k : ((r_isCell_v f a).toInt = 0) → Q (some (.inl (-1 : Int32))) (f, l)) (k1 : (¬ ((r_isCell_v f a).toInt = 0)) → fl_Tq (pw_P L xs) 276 8 [some (.inr (.inr (.inl (76, 277)))), some (.inl a), some (.inl b)] [] (f, l) Q) : fl_Tq (pw_P L xs) 276 0 [some (.inr (.inr (.inl (76, 277)))), some (.inl a), some (.inl b)] [] (f, l) Q := by
  refine fl_Tq.stp (pc' := 1) (lv' := [some (.inr (.inr (.inl (76, 277)))), some (.inl a), some (.inl b)]) (st' := [.inr (.inr (.inl (76, 277)))]) (m' := (f, l)) rfl rfl (fl_bo rfl) rfl ?_
  refine fl_Tq.stp (pc' := 2) (lv' := [some (.inr (.inr (.inl (76, 277)))), some (.inl a), some (.inl b)]) (st' := [.inl a, .inr (.inr (.inl (76, 277)))]) (m' := (f, l)) rfl rfl (fl_bo rfl) rfl ?_
  refine fl_Tq.cal rfl rfl (fl_bo rfl) rfl ?_
  refine r_isCell_q  ?_
  show fl_Tq _ 276 5 [some (.inr (.inr (.inl (76, 277)))), some (.inl a), some (.inl b)] [.inl (r_isCell_v f a)] (f, l) _
  by_cases h1 : (r_isCell_v f a).toInt = 0
  · refine fl_Tq.zt rfl (fl_bo rfl) (c1_eq_t h1) rfl ?_
    refine fl_Tq.cI (c := (-1 : Int32)) rfl (by decide +kernel) (fl_bo rfl) ?_
    exact fl_Tq.ret rfl rfl rfl (k h1)
  · refine fl_Tq.zf rfl (fl_bo rfl) (c1_eq_f h1) rfl ?_
    exact k1 h1
theorem y_turn_B {L : Nat} {xs : Nat → Int32} {f : t2_F} {l : t2_L} {Q : Option fl_V → fl_M → Prop} {a b : Int32} {A : Nat} (hA : a.toInt = (A : Int)) (hA1 : A < 16) (k : ((r_isIn_v b (0 : Int32) ((f 280 (444 + 61 * A + 10)) - (1 : Int32))).toInt = 0) → Q (some (.inl (-1 : Int32))) (f, l)) (k1 : (¬ ((r_isIn_v b (0 : Int32) ((f 280 (444 + 61 * A + 10)) - (1 : Int32))).toInt = 0)) → fl_Tq (pw_P L xs) 276 25 [some (.inr (.inr (.inl (76, 277)))), some (.inl a), some (.inl b)] [] (f, l) Q) : fl_Tq (pw_P L xs) 276 8 [some (.inr (.inr (.inl (76, 277)))), some (.inl a), some (.inl b)] [] (f, l) Q := by
  refine fl_Tq.stp (pc' := 9) (lv' := [some (.inr (.inr (.inl (76, 277)))), some (.inl a), some (.inl b)]) (st' := [.inl b]) (m' := (f, l)) rfl rfl (fl_bo rfl) rfl ?_
  refine fl_Tq.cI (c := (0 : Int32)) rfl (by decide +kernel) (fl_bo rfl) ?_
  refine fl_Tq.stp (pc' := 11) (lv' := [some (.inr (.inr (.inl (76, 277)))), some (.inl a), some (.inl b)]) (st' := [.inr (.inr (.inl (76, 277))), .inl (0 : Int32), .inl b]) (m' := (f, l)) rfl rfl (fl_bo rfl) rfl ?_
  refine fl_Tq.stp (pc' := 12) (lv' := [some (.inr (.inr (.inl (76, 277)))), some (.inl a), some (.inl b)]) (st' := [.inl a, .inr (.inr (.inl (76, 277))), .inl (0 : Int32), .inl b]) (m' := (f, l)) rfl rfl (fl_bo rfl) rfl ?_
  refine fl_Tq.cB (c := (10 : Int32)) rfl (by decide +kernel) (fl_bo rfl) ?_
  refine fl_Tq.cal rfl rfl (fl_bo rfl) rfl ?_
  refine t2_get (C := A) (W := 10) (v := f 280 (444 + 61 * A + 10)) hA (by decide +kernel) hA1 (by decide) rfl ?_
  show fl_Tq _ 276 17 [some (.inr (.inr (.inl (76, 277)))), some (.inl a), some (.inl b)] [.inl (f 280 (444 + 61 * A + 10)), .inl (0 : Int32), .inl b] (f, l) _
  refine fl_Tq.cI (c := (1 : Int32)) rfl (by decide +kernel) (fl_bo rfl) ?_
  refine fl_Tq.stp (pc' := 19) (lv' := [some (.inr (.inr (.inl (76, 277)))), some (.inl a), some (.inl b)]) (st' := [.inl ((f 280 (444 + 61 * A + 10)) - (1 : Int32)), .inl (0 : Int32), .inl b]) (m' := (f, l)) rfl rfl (fl_bo rfl) rfl ?_
  refine fl_Tq.cal rfl rfl (fl_bo rfl) rfl ?_
  refine r_isIn_q  ?_
  show fl_Tq _ 276 22 [some (.inr (.inr (.inl (76, 277)))), some (.inl a), some (.inl b)] [.inl (r_isIn_v b (0 : Int32) ((f 280 (444 + 61 * A + 10)) - (1 : Int32)))] (f, l) _
  by_cases h1 : (r_isIn_v b (0 : Int32) ((f 280 (444 + 61 * A + 10)) - (1 : Int32))).toInt = 0
  · refine fl_Tq.zt rfl (fl_bo rfl) (c1_eq_t h1) rfl ?_
    refine fl_Tq.cI (c := (-1 : Int32)) rfl (by decide +kernel) (fl_bo rfl) ?_
    exact fl_Tq.ret rfl rfl rfl (k h1)
  · refine fl_Tq.zf rfl (fl_bo rfl) (c1_eq_f h1) rfl ?_
    exact k1 h1
theorem y_turn_C {L : Nat} {xs : Nat → Int32} {f : t2_F} {l : t2_L} {Q : Option fl_V → fl_M → Prop} {a b : Int32}  (k : fl_Tq (pw_P L xs) 276 28 [some (.inr (.inr (.inl (76, 277)))), some (.inl a), some (.inl b)] [.inl b, .inl a, .inr (.inr (.inl (76, 277)))] (f, l) Q) : fl_Tq (pw_P L xs) 276 25 [some (.inr (.inr (.inl (76, 277)))), some (.inl a), some (.inl b)] [] (f, l) Q := by
  refine fl_Tq.stp (pc' := 26) (lv' := [some (.inr (.inr (.inl (76, 277)))), some (.inl a), some (.inl b)]) (st' := [.inr (.inr (.inl (76, 277)))]) (m' := (f, l)) rfl rfl (fl_bo rfl) rfl ?_
  refine fl_Tq.stp (pc' := 27) (lv' := [some (.inr (.inr (.inl (76, 277)))), some (.inl a), some (.inl b)]) (st' := [.inl a, .inr (.inr (.inl (76, 277)))]) (m' := (f, l)) rfl rfl (fl_bo rfl) rfl ?_
  refine fl_Tq.stp (pc' := 28) (lv' := [some (.inr (.inr (.inl (76, 277)))), some (.inl a), some (.inl b)]) (st' := [.inl b, .inl a, .inr (.inr (.inl (76, 277)))]) (m' := (f, l)) rfl rfl (fl_bo rfl) rfl ?_
  exact k
theorem y_turnAt {L : Nat} {xs : Nat → Int32} {f : t2_F} {l : t2_L} {Q : Option fl_V → fl_M → Prop} {a b : Int32} {A B : Nat} (hA : a.toInt = (A : Int)) (hA1 : A < 16) (hB : b.toInt = (B : Int)) (hB1 : B < 32) (k : Q (some (.inl (f 280 (444 + 61 * A + (17 + B))))) (f, l)) : fl_Tq (pw_P L xs) 231 0 [some (.inr (.inr (.inl (76, 277)))), some (.inl a), some (.inl b)] [] (f, l) Q := by
  refine fl_Tq.stp (pc' := 1) (lv' := [some (.inr (.inr (.inl (76, 277)))), some (.inl a), some (.inl b)]) (st' := [.inr (.inr (.inl (76, 277)))]) (m' := (f, l)) rfl rfl (fl_bo rfl) rfl ?_
  refine fl_Tq.stp (pc' := 2) (lv' := [some (.inr (.inr (.inl (76, 277)))), some (.inl a), some (.inl b)]) (st' := [.inl a, .inr (.inr (.inl (76, 277)))]) (m' := (f, l)) rfl rfl (fl_bo rfl) rfl ?_
  refine fl_Tq.cB (c := (17 : Int32)) rfl (by decide +kernel) (fl_bo rfl) ?_
  refine fl_Tq.stp (pc' := 5) (lv' := [some (.inr (.inr (.inl (76, 277)))), some (.inl a), some (.inl b)]) (st' := [.inl b, .inl (17 : Int32), .inl a, .inr (.inr (.inl (76, 277)))]) (m' := (f, l)) rfl rfl (fl_bo rfl) rfl ?_
  refine fl_Tq.stp (pc' := 6) (lv' := [some (.inr (.inr (.inl (76, 277)))), some (.inl a), some (.inl b)]) (st' := [.inl ((17 : Int32) + b), .inl a, .inr (.inr (.inl (76, 277)))]) (m' := (f, l)) rfl rfl (fl_bo rfl) rfl ?_
  refine fl_Tq.cal rfl rfl (fl_bo rfl) rfl ?_
  refine t2_get (C := A) (W := 17 + B) (v := f 280 (444 + 61 * A + (17 + B))) hA (t2_ia (by decide +kernel) hB (by omega)) hA1 (by omega) rfl ?_
  show fl_Tq _ 231 9 [some (.inr (.inr (.inl (76, 277)))), some (.inl a), some (.inl b)] [.inl (f 280 (444 + 61 * A + (17 + B)))] (f, l) _
  exact fl_Tq.ret rfl rfl rfl k
theorem y_turn_D {L : Nat} {xs : Nat → Int32} {f : t2_F} {l : t2_L} {Q : Option fl_V → fl_M → Prop} {a b z : Int32}  (k : Q (some (.inl z)) (f, l)) : fl_Tq (pw_P L xs) 276 31 [some (.inr (.inr (.inl (76, 277)))), some (.inl a), some (.inl b)] [.inl z] (f, l) Q := by
  refine fl_Tq.stp (pc' := 35) (lv' := [some (.inr (.inr (.inl (76, 277)))), some (.inl a), some (.inl b)]) (st' := [.inl z]) (m' := (f, l)) rfl rfl (fl_bo rfl) rfl ?_
  exact fl_Tq.ret rfl rfl rfl k
/-! ===== turn, on both sides ===== -/
theorem t2_cmp_28 {L : Nat} {xs : Nat → Int32} {f : t2_F} {l : t2_L} {a b : Int32} (_hall : ∀ c ∈ at_CM ++ at_CA, at_Valid at_XI (pw_P L xs) c) (hg : t2_Z (f, l)) : fl_Tq (pw_P L xs) 129 0 (fl_args (am_mxl (pw_P L xs) 129) [lx_x, .inl a, .inl b]) [] (f, l) (t2_End L xs 276 [at_this, .inl a, .inl b]) := by
  have I : c0_I f f := hg.2.1
  have c0 : (0 : Int32).toInt = 0 := rfl
  have e5 : f 1 5 = f 280 2 := I.1.1.1
  have n16 := I.rhu.1
  have n5 : 0 ≤ (f 1 5).toInt ∧ (f 1 5).toInt ≤ 16 := I.hc
  by_cases h : 0 ≤ a.toInt ∧ a.toInt < (f 280 2).toInt
  · obtain ⟨A, hA⟩ := t2_nat h.1
    have hA1 : A < 16 := by omega
    obtain ⟨ec, et, -, al⟩ := (I.2.2.2.1 A (by omega)).2.2.2.2
    have h32 : 0 ≤ (f 280 (444 + 61 * A + 10)).toInt ∧ (f 280 (444 + 61 * A + 10)).toInt ≤ 32 := ⟨by have := al.1; omega, al.1.2⟩
    have ed : (f 280 (444 + 61 * A + 10) - (1 : Int32)).toInt = (f 280 (444 + 61 * A + 10)).toInt - 1 := t2_dec (by omega)
    by_cases hb : 0 ≤ b.toInt ∧ b.toInt ≤ (f 280 (444 + 61 * A + 10)).toInt - 1
    · obtain ⟨B, hB⟩ := t2_nat hb.1
      have hB1 : B < 32 := by omega
      have e : f (20 + 4 * A) B = f 280 (444 + 61 * A + (17 + B)) := et B (by omega)
      refine t2_qq (y := f 280 (444 + 61 * A + (17 + B))) hg (fun Q k => ?_) (fun Q k => ?_)
      · show fl_Tq (pw_P L xs) 129 0 [some (.inr (.inr (.inl (0, 0)))), some (.inl a), some (.inl b), none] [] (f, l) Q
        refine x_turn_A (fun h1 => ?_) (fun _ => x_turn_B hA hA1 (fun h1 => ?_) (fun _ => x_turn_C hA hA1 hB hB1 ?_))
        · rw [t2_isc n5, e5] at h1
          exact absurd h h1
        · rw [t2_w0, ec, c0, ed] at h1
          exact absurd hb h1
        · rw [e]
          exact k
      · show fl_Tq (pw_P L xs) 276 0 [some (.inr (.inr (.inl (76, 277)))), some (.inl a), some (.inl b)] [] (f, l) Q
        refine y_turn_A (fun h1 => ?_) (fun _ => y_turn_B hA hA1 (fun h1 => ?_) (fun _ => y_turn_C ?_))
        · rw [r_isc n16] at h1
          exact absurd h h1
        · rw [r_i0, c0, ed] at h1
          exact absurd hb h1
        · refine fl_Tq.cal rfl rfl (fl_bo rfl) rfl ?_
          exact y_turnAt hA hA1 hB hB1 (y_turn_D k)
    · refine t2_qq (y := (-1 : Int32)) hg (fun Q k => ?_) (fun Q k => ?_)
      · show fl_Tq (pw_P L xs) 129 0 [some (.inr (.inr (.inl (0, 0)))), some (.inl a), some (.inl b), none] [] (f, l) Q
        refine x_turn_A (fun _ => k) (fun _ => x_turn_B hA hA1 (fun _ => k) (fun h1 => ?_))
        rw [t2_w0, ec, c0, ed, Classical.not_not] at h1
        exact absurd h1 hb
      · show fl_Tq (pw_P L xs) 276 0 [some (.inr (.inr (.inl (76, 277)))), some (.inl a), some (.inl b)] [] (f, l) Q
        refine y_turn_A (fun _ => k) (fun _ => y_turn_B hA hA1 (fun _ => k) (fun h1 => ?_))
        rw [r_i0, c0, ed, Classical.not_not] at h1
        exact absurd h1 hb
  · refine t2_qq (y := (-1 : Int32)) hg (fun Q k => ?_) (fun Q k => ?_)
    · show fl_Tq (pw_P L xs) 129 0 [some (.inr (.inr (.inl (0, 0)))), some (.inl a), some (.inl b), none] [] (f, l) Q
      refine x_turn_A (fun _ => k) (fun h1 => ?_)
      rw [t2_isc n5, e5, Classical.not_not] at h1
      exact absurd h1 h
    · show fl_Tq (pw_P L xs) 276 0 [some (.inr (.inr (.inl (76, 277)))), some (.inl a), some (.inl b)] [] (f, l) Q
      refine y_turn_A (fun _ => k) (fun h1 => ?_)
      rw [r_isc n16, Classical.not_not] at h1
      exact absurd h1 h

end

/-! 95.05.08p29.lean.txt -/
section
theorem x_stuckAs_A {L : Nat} {xs : Nat → Int32} {f : t2_F} {l : t2_L} {Q : Option fl_V → fl_M → Prop} {a : Int32}  (k : ((t2_within_v a (0 : Int32) (2 : Int32)).toInt = 0) → Q (some (.inl (-1 : Int32))) (f, l)) (k1 : (¬ ((t2_within_v a (0 : Int32) (2 : Int32)).toInt = 0)) → fl_Tq (pw_P L xs) 130 9 [some (.inr (.inr (.inl (0, 0)))), some (.inl a)] [] (f, l) Q) : fl_Tq (pw_P L xs) 130 0 [some (.inr (.inr (.inl (0, 0)))), some (.inl a)] [] (f, l) Q := by
  refine fl_Tq.stp (pc' := 1) (lv' := [some (.inr (.inr (.inl (0, 0)))), some (.inl a)]) (st' := [.inl a]) (m' := (f, l)) rfl rfl (fl_bo rfl) rfl ?_
  refine fl_Tq.cI (c := (0 : Int32)) rfl (by decide +kernel) (fl_bo rfl) ?_
  refine fl_Tq.cI (c := (2 : Int32)) rfl (by decide +kernel) (fl_bo rfl) ?_
  refine fl_Tq.cal rfl rfl (fl_bo rfl) rfl ?_
  refine t2_within_q  ?_
  show fl_Tq _ 130 6 [some (.inr (.inr (.inl (0, 0)))), some (.inl a)] [.inl (t2_within_v a (0 : Int32) (2 : Int32))] (f, l) _
  by_cases h1 : (t2_within_v a (0 : Int32) (2 : Int32)).toInt = 0
  · refine fl_Tq.zt rfl (fl_bo rfl) (c1_eq_t h1) rfl ?_
    refine fl_Tq.cI (c := (-1 : Int32)) rfl (by decide +kernel) (fl_bo rfl) ?_
    exact fl_Tq.ret rfl rfl rfl (k h1)
  · refine fl_Tq.zf rfl (fl_bo rfl) (c1_eq_f h1) rfl ?_
    exact k1 h1
theorem x_stuckAs_B {L : Nat} {xs : Nat → Int32} {f : t2_F} {l : t2_L} {Q : Option fl_V → fl_M → Prop} {a : Int32} {A : Nat} (hA : a.toInt = (A : Int)) (hA1 : A < 3) (k : Q (some (.inl (f 5 A))) (f, l)) : fl_Tq (pw_P L xs) 130 9 [some (.inr (.inr (.inl (0, 0)))), some (.inl a)] [] (f, l) Q := by
  refine fl_Tq.stp (pc' := 10) (lv' := [some (.inr (.inr (.inl (0, 0)))), some (.inl a)]) (st' := [.inr (.inr (.inl (0, 0)))]) (m' := (f, l)) rfl rfl (fl_bo rfl) rfl ?_
  refine fl_Tq.stp (pc' := 13) (lv' := [some (.inr (.inr (.inl (0, 0)))), some (.inl a)]) (st' := [.inr (.inr (.inl (1, 1)))]) (m' := (f, l)) rfl rfl (fl_bo rfl) rfl ?_
  refine fl_Tq.stp (pc' := 16) (lv' := [some (.inr (.inr (.inl (0, 0)))), some (.inl a)]) (st' := [.inr (.inr (.inl (3, 3)))]) (m' := (f, l)) rfl rfl (fl_bo rfl) rfl ?_
  refine fl_Tq.stp (pc' := 19) (lv' := [some (.inr (.inr (.inl (0, 0)))), some (.inl a)]) (st' := [.inr (.inr (.inl (5, 5)))]) (m' := (f, l)) rfl rfl (fl_bo rfl) rfl ?_
  refine fl_Tq.stp (pc' := 20) (lv' := [some (.inr (.inr (.inl (0, 0)))), some (.inl a)]) (st' := [.inl a, .inr (.inr (.inl (5, 5)))]) (m' := (f, l)) rfl rfl (fl_bo rfl) rfl ?_
  refine fl_Tq.ldV (p := 5) (τ := 5) (n := 3) (z := (0, 0, 0)) (k := A) (v := f 5 A) rfl (fl_bo rfl) rfl hA hA1 rfl ?_
  refine fl_Tq.stp (pc' := 25) (lv' := [some (.inr (.inr (.inl (0, 0)))), some (.inl a)]) (st' := [.inl (f 5 A)]) (m' := (f, l)) rfl rfl (fl_bo rfl) rfl ?_
  exact fl_Tq.ret rfl rfl rfl k
theorem y_stuckAs_A {L : Nat} {xs : Nat → Int32} {f : t2_F} {l : t2_L} {Q : Option fl_V → fl_M → Prop} {a : Int32}  (k : ((r_isIn_v a (0 : Int32) (2 : Int32)).toInt = 0) → Q (some (.inl (-1 : Int32))) (f, l)) (k1 : (¬ ((r_isIn_v a (0 : Int32) (2 : Int32)).toInt = 0)) → fl_Tq (pw_P L xs) 277 9 [some (.inr (.inr (.inl (76, 277)))), some (.inl a)] [] (f, l) Q) : fl_Tq (pw_P L xs) 277 0 [some (.inr (.inr (.inl (76, 277)))), some (.inl a)] [] (f, l) Q := by
  refine fl_Tq.stp (pc' := 1) (lv' := [some (.inr (.inr (.inl (76, 277)))), some (.inl a)]) (st' := [.inl a]) (m' := (f, l)) rfl rfl (fl_bo rfl) rfl ?_
  refine fl_Tq.cI (c := (0 : Int32)) rfl (by decide +kernel) (fl_bo rfl) ?_
  refine fl_Tq.cI (c := (2 : Int32)) rfl (by decide +kernel) (fl_bo rfl) ?_
  refine fl_Tq.cal rfl rfl (fl_bo rfl) rfl ?_
  refine r_isIn_q  ?_
  show fl_Tq _ 277 6 [some (.inr (.inr (.inl (76, 277)))), some (.inl a)] [.inl (r_isIn_v a (0 : Int32) (2 : Int32))] (f, l) _
  by_cases h1 : (r_isIn_v a (0 : Int32) (2 : Int32)).toInt = 0
  · refine fl_Tq.zt rfl (fl_bo rfl) (c1_eq_t h1) rfl ?_
    refine fl_Tq.cI (c := (-1 : Int32)) rfl (by decide +kernel) (fl_bo rfl) ?_
    exact fl_Tq.ret rfl rfl rfl (k h1)
  · refine fl_Tq.zf rfl (fl_bo rfl) (c1_eq_f h1) rfl ?_
    exact k1 h1
theorem y_stuckAs_B {L : Nat} {xs : Nat → Int32} {f : t2_F} {l : t2_L} {Q : Option fl_V → fl_M → Prop} {a : Int32} {A : Nat} (hA : a.toInt = (A : Int)) (hA1 : A < 3) (k : Q (some (.inl (f 280 (64 + A)))) (f, l)) : fl_Tq (pw_P L xs) 277 9 [some (.inr (.inr (.inl (76, 277)))), some (.inl a)] [] (f, l) Q := by
  refine fl_Tq.stp (pc' := 10) (lv' := [some (.inr (.inr (.inl (76, 277)))), some (.inl a)]) (st' := [.inr (.inr (.inl (76, 277)))]) (m' := (f, l)) rfl rfl (fl_bo rfl) rfl ?_
  refine fl_Tq.stp (pc' := 13) (lv' := [some (.inr (.inr (.inl (76, 277)))), some (.inl a)]) (st' := [.inr (.inr (.inl (79, 280)))]) (m' := (f, l)) rfl rfl (fl_bo rfl) rfl ?_
  refine fl_Tq.cB (c := (64 : Int32)) rfl (by decide +kernel) (fl_bo rfl) ?_
  refine fl_Tq.stp (pc' := 16) (lv' := [some (.inr (.inr (.inl (76, 277)))), some (.inl a)]) (st' := [.inl a, .inl (64 : Int32), .inr (.inr (.inl (79, 280)))]) (m' := (f, l)) rfl rfl (fl_bo rfl) rfl ?_
  refine fl_Tq.stp (pc' := 17) (lv' := [some (.inr (.inr (.inl (76, 277)))), some (.inl a)]) (st' := [.inl ((64 : Int32) + a), .inr (.inr (.inl (79, 280)))]) (m' := (f, l)) rfl rfl (fl_bo rfl) rfl ?_
  refine fl_Tq.ldV (p := 280) (τ := 79) (n := 29780) (z := (0, 0, 0)) (k := 64 + A) (v := f 280 (64 + A)) rfl (fl_bo rfl) rfl (t2_ia (by decide +kernel) hA (by omega)) (by omega) rfl ?_
  refine fl_Tq.stp (pc' := 22) (lv' := [some (.inr (.inr (.inl (76, 277)))), some (.inl a)]) (st' := [.inl (f 280 (64 + A))]) (m' := (f, l)) rfl rfl (fl_bo rfl) rfl ?_
  exact fl_Tq.ret rfl rfl rfl k
/-! ===== stuckAs, on both sides ===== -/
theorem t2_cmp_29 {L : Nat} {xs : Nat → Int32} {f : t2_F} {l : t2_L} {a : Int32} (_hall : ∀ c ∈ at_CM ++ at_CA, at_Valid at_XI (pw_P L xs) c) (hg : t2_Z (f, l)) : fl_Tq (pw_P L xs) 130 0 (fl_args (am_mxl (pw_P L xs) 130) [lx_x, .inl a]) [] (f, l) (t2_End L xs 277 [at_this, .inl a]) := by
  have I : c0_I f f := hg.2.1
  have c0 : (0 : Int32).toInt = 0 := rfl
  have ct : (2 : Int32).toInt = 2 := by decide +kernel
  by_cases h : 0 ≤ a.toInt ∧ a.toInt ≤ 2
  · obtain ⟨A, hA⟩ := t2_nat h.1
    have hA1 : A < 3 := by omega
    have e : f 5 A = f 280 (64 + A) := I.2.2.1.1.1 A hA1
    refine t2_qq (y := f 280 (64 + A)) hg (fun Q k => ?_) (fun Q k => ?_)
    · show fl_Tq (pw_P L xs) 130 0 [some (.inr (.inr (.inl (0, 0)))), some (.inl a)] [] (f, l) Q
      refine x_stuckAs_A (fun h1 => ?_) (fun _ => x_stuckAs_B hA hA1 ?_)
      · rw [t2_w0, c0, ct] at h1
        exact absurd h h1
      · rw [e]
        exact k
    · show fl_Tq (pw_P L xs) 277 0 [some (.inr (.inr (.inl (76, 277)))), some (.inl a)] [] (f, l) Q
      refine y_stuckAs_A (fun h1 => ?_) (fun _ => y_stuckAs_B hA hA1 k)
      rw [r_i0, c0, ct] at h1
      exact absurd h h1
  · refine t2_qq (y := (-1 : Int32)) hg (fun Q k => ?_) (fun Q k => ?_)
    · show fl_Tq (pw_P L xs) 130 0 [some (.inr (.inr (.inl (0, 0)))), some (.inl a)] [] (f, l) Q
      refine x_stuckAs_A (fun _ => k) (fun h1 => ?_)
      rw [t2_w0, c0, ct] at h1
      exact absurd h h1
    · show fl_Tq (pw_P L xs) 277 0 [some (.inr (.inr (.inl (76, 277)))), some (.inl a)] [] (f, l) Q
      refine y_stuckAs_A (fun _ => k) (fun h1 => ?_)
      rw [r_i0, c0, ct] at h1
      exact absurd h h1

end
