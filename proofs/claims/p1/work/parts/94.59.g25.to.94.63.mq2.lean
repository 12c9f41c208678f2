/-! 94.59.g25.lean.txt -/
section
theorem x_lay_A {L : Nat} {xs : Nat → Int32} {f : t2_F} {l : t2_L} {Q : Option fl_V → fl_M → Prop} {a : Int32} {A : Nat} (hA : a.toInt = (A : Int)) (hA1 : A < 3) (k : fl_Tq (pw_P L xs) 36 9 [some (.inr (.inr (.inl (1, 1)))), some (.inl a), some (.inr (.inr (.inl (22, 82 + 3 * A)))), some (.inl (0 : Int32))] [] (f, l) Q) : fl_Tq (pw_P L xs) 36 0 [some (.inr (.inr (.inl (1, 1)))), some (.inl a), none, none] [] (f, l) Q := by
  refine fl_Tq.stp (pc' := 1) (lv' := [some (.inr (.inr (.inl (1, 1)))), some (.inl a), none, none]) (st' := [.inr (.inr (.inl (1, 1)))]) (m' := (f, l)) rfl rfl (fl_bo rfl) rfl ?_
  refine fl_Tq.stp (pc' := 4) (lv' := [some (.inr (.inr (.inl (1, 1)))), some (.inl a), none, none]) (st' := [.inr (.inr (.inl (15, 15)))]) (m' := (f, l)) rfl rfl (fl_bo rfl) rfl ?_
  refine fl_Tq.stp (pc' := 5) (lv' := [some (.inr (.inr (.inl (1, 1)))), some (.inl a), none, none]) (st' := [.inl a, .inr (.inr (.inl (15, 15)))]) (m' := (f, l)) rfl rfl (fl_bo rfl) rfl ?_
  refine fl_Tq.qldM (p := 15) (τ := 15) (n := 3) (t := 22) (b := 67) (d := 2) (k := A) rfl (fl_bo rfl) rfl hA hA1 ?_
  show fl_Tq _ 36 6 [some (.inr (.inr (.inl (1, 1)))), some (.inl a), none, none] [.inr (.inr (.inl (22, 82 + 3 * A)))] (f, l) _
  refine fl_Tq.stp (pc' := 7) (lv' := [some (.inr (.inr (.inl (1, 1)))), some (.inl a), some (.inr (.inr (.inl (22, 82 + 3 * A)))), none]) (st' := []) (m' := (f, l)) rfl rfl (fl_oks_ok ⟨(t2_km0 hA1), True.intro⟩) rfl ?_
  refine fl_Tq.cI (c := (0 : Int32)) rfl (by decide +kernel) (fl_bo rfl) ?_
  refine fl_Tq.stp (pc' := 9) (lv' := [some (.inr (.inr (.inl (1, 1)))), some (.inl a), some (.inr (.inr (.inl (22, 82 + 3 * A)))), some (.inl (0 : Int32))]) (st' := []) (m' := (f, l)) rfl rfl (fl_bo rfl) rfl ?_
  exact k
theorem x_lay_B {L : Nat} {xs : Nat → Int32} {f : t2_F} {l : t2_L} {Q : Option fl_V → fl_M → Prop} {a : Int32} {A j : Nat} (hA1 : A < 3) (hj : j < 16) (hk : (Int32.ofNat j).toInt < (f 1 5).toInt) (k : fl_Tq (pw_P L xs) 36 9 [some (.inr (.inr (.inl (1, 1)))), some (.inl a), some (.inr (.inr (.inl (22, 82 + 3 * A)))), some (.inl ((Int32.ofNat j) + (1 : Int32)))] [] (fl_row (fl_row f (83 + 3 * A) (upd (f (83 + 3 * A)) j (f (18 + 4 * j) 3))) (84 + 3 * A) (upd (f (84 + 3 * A)) j (f (18 + 4 * j) 9)), l) Q) : fl_Tq (pw_P L xs) 36 9 [some (.inr (.inr (.inl (1, 1)))), some (.inl a), some (.inr (.inr (.inl (22, 82 + 3 * A)))), some (.inl (Int32.ofNat j))] [] (f, l) Q := by
  refine fl_Tq.stp (pc' := 10) (lv' := [some (.inr (.inr (.inl (1, 1)))), some (.inl a), some (.inr (.inr (.inl (22, 82 + 3 * A)))), some (.inl (Int32.ofNat j))]) (st' := [.inl (Int32.ofNat j)]) (m' := (f, l)) rfl rfl (fl_bo rfl) rfl ?_
  refine fl_Tq.stp (pc' := 11) (lv' := [some (.inr (.inr (.inl (1, 1)))), some (.inl a), some (.inr (.inr (.inl (22, 82 + 3 * A)))), some (.inl (Int32.ofNat j))]) (st' := [.inr (.inr (.inl (1, 1))), .inl (Int32.ofNat j)]) (m' := (f, l)) rfl rfl (fl_bo rfl) rfl ?_
  refine fl_Tq.gfV (k := 5) (v := f 1 5) rfl (fl_bo rfl) rfl rfl ?_
  refine fl_Tq.jf rfl (fl_bo rfl) (c2_ge_f hk) rfl ?_
  refine fl_Tq.stp (pc' := 18) (lv' := [some (.inr (.inr (.inl (1, 1)))), some (.inl a), some (.inr (.inr (.inl (22, 82 + 3 * A)))), some (.inl (Int32.ofNat j))]) (st' := [.inr (.inr (.inl (22, 82 + 3 * A)))]) (m' := (f, l)) rfl rfl (fl_bo rfl) rfl ?_
  refine fl_Tq.gfR (d := 1) (p' := 83 + 3 * A) rfl (fl_oks_ok ⟨(t2_km0 hA1), True.intro⟩) rfl (by omega) ?_
  refine fl_Tq.stp (pc' := 22) (lv' := [some (.inr (.inr (.inl (1, 1)))), some (.inl a), some (.inr (.inr (.inl (22, 82 + 3 * A)))), some (.inl (Int32.ofNat j))]) (st' := [.inl (Int32.ofNat j), .inr (.inr (.inl (23, 83 + 3 * A)))]) (m' := (f, l)) rfl rfl (fl_oks_ok ⟨(t2_km1 hA1), True.intro⟩) rfl ?_
  refine fl_Tq.stp (pc' := 23) (lv' := [some (.inr (.inr (.inl (1, 1)))), some (.inl a), some (.inr (.inr (.inl (22, 82 + 3 * A)))), some (.inl (Int32.ofNat j))]) (st' := [.inr (.inr (.inl (1, 1))), .inl (Int32.ofNat j), .inr (.inr (.inl (23, 83 + 3 * A)))]) (m' := (f, l)) rfl rfl (fl_oks_ok ⟨True.intro, (t2_km1 hA1), True.intro⟩) rfl ?_
  refine fl_Tq.stp (pc' := 26) (lv' := [some (.inr (.inr (.inl (1, 1)))), some (.inl a), some (.inr (.inr (.inl (22, 82 + 3 * A)))), some (.inl (Int32.ofNat j))]) (st' := [.inr (.inr (.inl (2, 2))), .inl (Int32.ofNat j), .inr (.inr (.inl (23, 83 + 3 * A)))]) (m' := (f, l)) rfl rfl (fl_oks_ok ⟨fl_okp (by decide +kernel) (by decide), True.intro, (t2_km1 hA1), True.intro⟩) rfl ?_
  refine fl_Tq.stp (pc' := 27) (lv' := [some (.inr (.inr (.inl (1, 1)))), some (.inl a), some (.inr (.inr (.inl (22, 82 + 3 * A)))), some (.inl (Int32.ofNat j))]) (st' := [.inl (Int32.ofNat j), .inr (.inr (.inl (2, 2))), .inl (Int32.ofNat j), .inr (.inr (.inl (23, 83 + 3 * A)))]) (m' := (f, l)) rfl rfl (fl_oks_ok ⟨fl_okp (by decide +kernel) (by decide), True.intro, (t2_km1 hA1), True.intro⟩) rfl ?_
  refine fl_Tq.qld (p := 2) (τ := 2) (n := 16) (t := 18) (b := 16) (d := 3) (k := j) rfl (fl_oks_ok ⟨True.intro, fl_okp (by decide +kernel) (by decide), True.intro, (t2_km1 hA1), True.intro⟩) rfl (at_ofN (by omega)) (by omega) ?_
  show fl_Tq _ 36 28 [some (.inr (.inr (.inl (1, 1)))), some (.inl a), some (.inr (.inr (.inl (22, 82 + 3 * A)))), some (.inl (Int32.ofNat j))] [.inr (.inr (.inl (18, 18 + 4 * j))), .inl (Int32.ofNat j), .inr (.inr (.inl (23, 83 + 3 * A)))] (f, l) _
  refine fl_Tq.gfV (k := 3) (v := f (18 + 4 * j) 3) rfl (fl_oks_ok ⟨(t2_kc0 (by omega)), True.intro, (t2_km1 hA1), True.intro⟩) rfl rfl ?_
  refine fl_Tq.svV (p := 83 + 3 * A) (τ := 23) (n := 16) (z := (0, 0, 0)) (k := j) (m' := (fl_row f (83 + 3 * A) (upd (f (83 + 3 * A)) j (f (18 + 4 * j) 3)), l)) rfl (fl_oks_ok ⟨True.intro, True.intro, (t2_km1 hA1), True.intro⟩) rfl (at_ofN (by omega)) (by omega) (t2_upn rfl) ?_
  refine fl_Tq.stp (pc' := 33) (lv' := [some (.inr (.inr (.inl (1, 1)))), some (.inl a), some (.inr (.inr (.inl (22, 82 + 3 * A)))), some (.inl (Int32.ofNat j))]) (st' := [.inr (.inr (.inl (22, 82 + 3 * A)))]) (m' := (fl_row f (83 + 3 * A) (upd (f (83 + 3 * A)) j (f (18 + 4 * j) 3)), l)) rfl rfl (fl_bo rfl) rfl ?_
  refine fl_Tq.gfR (d := 2) (p' := 84 + 3 * A) rfl (fl_oks_ok ⟨(t2_km0 hA1), True.intro⟩) rfl (by omega) ?_
  refine fl_Tq.stp (pc' := 37) (lv' := [some (.inr (.inr (.inl (1, 1)))), some (.inl a), some (.inr (.inr (.inl (22, 82 + 3 * A)))), some (.inl (Int32.ofNat j))]) (st' := [.inl (Int32.ofNat j), .inr (.inr (.inl (24, 84 + 3 * A)))]) (m' := (fl_row f (83 + 3 * A) (upd (f (83 + 3 * A)) j (f (18 + 4 * j) 3)), l)) rfl rfl (fl_oks_ok ⟨(t2_km2 hA1), True.intro⟩) rfl ?_
  refine fl_Tq.stp (pc' := 38) (lv' := [some (.inr (.inr (.inl (1, 1)))), some (.inl a), some (.inr (.inr (.inl (22, 82 + 3 * A)))), some (.inl (Int32.ofNat j))]) (st' := [.inr (.inr (.inl (1, 1))), .inl (Int32.ofNat j), .inr (.inr (.inl (24, 84 + 3 * A)))]) (m' := (fl_row f (83 + 3 * A) (upd (f (83 + 3 * A)) j (f (18 + 4 * j) 3)), l)) rfl rfl (fl_oks_ok ⟨True.intro, (t2_km2 hA1), True.intro⟩) rfl ?_
  refine fl_Tq.stp (pc' := 41) (lv' := [some (.inr (.inr (.inl (1, 1)))), some (.inl a), some (.inr (.inr (.inl (22, 82 + 3 * A)))), some (.inl (Int32.ofNat j))]) (st' := [.inr (.inr (.inl (2, 2))), .inl (Int32.ofNat j), .inr (.inr (.inl (24, 84 + 3 * A)))]) (m' := (fl_row f (83 + 3 * A) (upd (f (83 + 3 * A)) j (f (18 + 4 * j) 3)), l)) rfl rfl (fl_oks_ok ⟨fl_okp (by decide +kernel) (by decide), True.intro, (t2_km2 hA1), True.intro⟩) rfl ?_
  refine fl_Tq.stp (pc' := 42) (lv' := [some (.inr (.inr (.inl (1, 1)))), some (.inl a), some (.inr (.inr (.inl (22, 82 + 3 * A)))), some (.inl (Int32.ofNat j))]) (st' := [.inl (Int32.ofNat j), .inr (.inr (.inl (2, 2))), .inl (Int32.ofNat j), .inr (.inr (.inl (24, 84 + 3 * A)))]) (m' := (fl_row f (83 + 3 * A) (upd (f (83 + 3 * A)) j (f (18 + 4 * j) 3)), l)) rfl rfl (fl_oks_ok ⟨fl_okp (by decide +kernel) (by decide), True.intro, (t2_km2 hA1), True.intro⟩) rfl ?_
  refine fl_Tq.qld (p := 2) (τ := 2) (n := 16) (t := 18) (b := 16) (d := 3) (k := j) rfl (fl_oks_ok ⟨True.intro, fl_okp (by decide +kernel) (by decide), True.intro, (t2_km2 hA1), True.intro⟩) rfl (at_ofN (by omega)) (by omega) ?_
  show fl_Tq _ 36 43 [some (.inr (.inr (.inl (1, 1)))), some (.inl a), some (.inr (.inr (.inl (22, 82 + 3 * A)))), some (.inl (Int32.ofNat j))] [.inr (.inr (.inl (18, 18 + 4 * j))), .inl (Int32.ofNat j), .inr (.inr (.inl (24, 84 + 3 * A)))] (fl_row f (83 + 3 * A) (upd (f (83 + 3 * A)) j (f (18 + 4 * j) 3)), l) _
  refine fl_Tq.gfV (k := 9) (v := f (18 + 4 * j) 9) rfl (fl_oks_ok ⟨(t2_kc0 (by omega)), True.intro, (t2_km2 hA1), True.intro⟩) rfl (by simp only [fl_row_ne (show 18 + 4 * j ≠ 83 + 3 * A by omega)]) ?_
  refine fl_Tq.svV (p := 84 + 3 * A) (τ := 24) (n := 16) (z := (0, 0, 0)) (k := j) (m' := (fl_row (fl_row f (83 + 3 * A) (upd (f (83 + 3 * A)) j (f (18 + 4 * j) 3))) (84 + 3 * A) (upd (f (84 + 3 * A)) j (f (18 + 4 * j) 9)), l)) rfl (fl_oks_ok ⟨True.intro, True.intro, (t2_km2 hA1), True.intro⟩) rfl (at_ofN (by omega)) (by omega) (t2_upn (by rw [fl_row_ne (show 84 + 3 * A ≠ 83 + 3 * A by omega)])) ?_
  refine fl_Tq.stp (pc' := 50) (lv' := [some (.inr (.inr (.inl (1, 1)))), some (.inl a), some (.inr (.inr (.inl (22, 82 + 3 * A)))), some (.inl ((Int32.ofNat j) + (1 : Int32)))]) (st' := []) (m' := (fl_row (fl_row f (83 + 3 * A) (upd (f (83 + 3 * A)) j (f (18 + 4 * j) 3))) (84 + 3 * A) (upd (f (84 + 3 * A)) j (f (18 + 4 * j) 9)), l)) rfl rfl (fl_bo rfl) rfl ?_
  refine fl_Tq.stp (pc' := 9) (lv' := [some (.inr (.inr (.inl (1, 1)))), some (.inl a), some (.inr (.inr (.inl (22, 82 + 3 * A)))), some (.inl ((Int32.ofNat j) + (1 : Int32)))]) (st' := []) (m' := (fl_row (fl_row f (83 + 3 * A) (upd (f (83 + 3 * A)) j (f (18 + 4 * j) 3))) (84 + 3 * A) (upd (f (84 + 3 * A)) j (f (18 + 4 * j) 9)), l)) rfl rfl (fl_bo rfl) rfl ?_
  exact k
theorem x_lay_C {L : Nat} {xs : Nat → Int32} {f : t2_F} {l : t2_L} {Q : Option fl_V → fl_M → Prop} {a : Int32} {A j : Nat} (hA1 : A < 3) (hk : ¬ ((Int32.ofNat j).toInt < (f 1 5).toInt)) (k : Q none (fl_row f (82 + 3 * A) (upd (upd (f (82 + 3 * A)) 2 (f 1 5)) 3 (f 1 6)), l)) : fl_Tq (pw_P L xs) 36 9 [some (.inr (.inr (.inl (1, 1)))), some (.inl a), some (.inr (.inr (.inl (22, 82 + 3 * A)))), some (.inl (Int32.ofNat j))] [] (f, l) Q := by
  refine fl_Tq.stp (pc' := 10) (lv' := [some (.inr (.inr (.inl (1, 1)))), some (.inl a), some (.inr (.inr (.inl (22, 82 + 3 * A)))), some (.inl (Int32.ofNat j))]) (st' := [.inl (Int32.ofNat j)]) (m' := (f, l)) rfl rfl (fl_bo rfl) rfl ?_
  refine fl_Tq.stp (pc' := 11) (lv' := [some (.inr (.inr (.inl (1, 1)))), some (.inl a), some (.inr (.inr (.inl (22, 82 + 3 * A)))), some (.inl (Int32.ofNat j))]) (st' := [.inr (.inr (.inl (1, 1))), .inl (Int32.ofNat j)]) (m' := (f, l)) rfl rfl (fl_bo rfl) rfl ?_
  refine fl_Tq.gfV (k := 5) (v := f 1 5) rfl (fl_bo rfl) rfl rfl ?_
  refine fl_Tq.jt rfl (fl_bo rfl) (c2_ge_t hk) rfl ?_
  refine fl_Tq.stp (pc' := 54) (lv' := [some (.inr (.inr (.inl (1, 1)))), some (.inl a), some (.inr (.inr (.inl (22, 82 + 3 * A)))), some (.inl (Int32.ofNat j))]) (st' := [.inr (.inr (.inl (22, 82 + 3 * A)))]) (m' := (f, l)) rfl rfl (fl_bo rfl) rfl ?_
  refine fl_Tq.stp (pc' := 55) (lv' := [some (.inr (.inr (.inl (1, 1)))), some (.inl a), some (.inr (.inr (.inl (22, 82 + 3 * A)))), some (.inl (Int32.ofNat j))]) (st' := [.inr (.inr (.inl (1, 1))), .inr (.inr (.inl (22, 82 + 3 * A)))]) (m' := (f, l)) rfl rfl (fl_oks_ok ⟨(t2_km0 hA1), True.intro⟩) rfl ?_
  refine fl_Tq.gfV (k := 5) (v := f 1 5) rfl (fl_oks_ok ⟨fl_okp (by decide +kernel) (by decide), (t2_km0 hA1), True.intro⟩) rfl rfl ?_
  refine fl_Tq.pfV (k := 2) (m' := (fl_row f (82 + 3 * A) (upd (f (82 + 3 * A)) 2 (f 1 5)), l)) rfl (fl_oks_ok ⟨True.intro, (t2_km0 hA1), True.intro⟩) rfl (t2_upn rfl) ?_
  refine fl_Tq.stp (pc' := 62) (lv' := [some (.inr (.inr (.inl (1, 1)))), some (.inl a), some (.inr (.inr (.inl (22, 82 + 3 * A)))), some (.inl (Int32.ofNat j))]) (st' := [.inr (.inr (.inl (22, 82 + 3 * A)))]) (m' := (fl_row f (82 + 3 * A) (upd (f (82 + 3 * A)) 2 (f 1 5)), l)) rfl rfl (fl_bo rfl) rfl ?_
  refine fl_Tq.stp (pc' := 63) (lv' := [some (.inr (.inr (.inl (1, 1)))), some (.inl a), some (.inr (.inr (.inl (22, 82 + 3 * A)))), some (.inl (Int32.ofNat j))]) (st' := [.inr (.inr (.inl (1, 1))), .inr (.inr (.inl (22, 82 + 3 * A)))]) (m' := (fl_row f (82 + 3 * A) (upd (f (82 + 3 * A)) 2 (f 1 5)), l)) rfl rfl (fl_oks_ok ⟨(t2_km0 hA1), True.intro⟩) rfl ?_
  refine fl_Tq.gfV (k := 6) (v := f 1 6) rfl (fl_oks_ok ⟨fl_okp (by decide +kernel) (by decide), (t2_km0 hA1), True.intro⟩) rfl (by simp only [fl_row_ne (show 1 ≠ 82 + 3 * A by omega)]) ?_
  refine fl_Tq.pfV (k := 3) (m' := (fl_row f (82 + 3 * A) (upd (upd (f (82 + 3 * A)) 2 (f 1 5)) 3 (f 1 6)), l)) rfl (fl_oks_ok ⟨True.intro, (t2_km0 hA1), True.intro⟩) rfl (t2_upr) ?_
  exact fl_Tq.ret rfl rfl rfl k
theorem x_fil_A {L : Nat} {xs : Nat → Int32} {f : t2_F} {l : t2_L} {Q : Option fl_V → fl_M → Prop} {z : Int32} {A j : Nat} (hA1 : A < 16) (k : fl_Tq (pw_P L xs) 338 5 [some (.inr (.inr (.inl (21, 21 + 4 * A)))), some (.inl z), some (.inl (0 : Int32)), some (.inl (Int32.ofNat 11))] [] (f, l) Q) : fl_Tq (pw_P L xs) 338 0 [some (.inr (.inr (.inl (21, 21 + 4 * A)))), some (.inl z), none, none] [] (f, l) Q := by
  refine fl_Tq.cI (c := (0 : Int32)) rfl (by decide +kernel) (fl_bo rfl) ?_
  refine fl_Tq.stp (pc' := 2) (lv' := [some (.inr (.inr (.inl (21, 21 + 4 * A)))), some (.inl z), some (.inl (0 : Int32)), none]) (st' := []) (m' := (f, l)) rfl rfl (fl_bo rfl) rfl ?_
  refine fl_Tq.stp (pc' := 3) (lv' := [some (.inr (.inr (.inl (21, 21 + 4 * A)))), some (.inl z), some (.inl (0 : Int32)), none]) (st' := [.inr (.inr (.inl (21, 21 + 4 * A)))]) (m' := (f, l)) rfl rfl (fl_bo rfl) rfl ?_
  refine fl_Tq.stp (pc' := 4) (lv' := [some (.inr (.inr (.inl (21, 21 + 4 * A)))), some (.inl z), some (.inl (0 : Int32)), none]) (st' := [.inl (Int32.ofNat 11)]) (m' := (f, l)) rfl rfl (fl_oks_ok ⟨(t2_ky0 (by omega)), True.intro⟩) rfl ?_
  refine fl_Tq.stp (pc' := 5) (lv' := [some (.inr (.inr (.inl (21, 21 + 4 * A)))), some (.inl z), some (.inl (0 : Int32)), some (.inl (Int32.ofNat 11))]) (st' := []) (m' := (f, l)) rfl rfl (fl_bo rfl) rfl ?_
  exact k
theorem x_fil_B {L : Nat} {xs : Nat → Int32} {f : t2_F} {l : t2_L} {Q : Option fl_V → fl_M → Prop} {z : Int32} {A j : Nat} (hA1 : A < 16) (hj : j < 11) (hk : (Int32.ofNat j).toInt < (Int32.ofNat 11).toInt) (k : fl_Tq (pw_P L xs) 338 5 [some (.inr (.inr (.inl (21, 21 + 4 * A)))), some (.inl z), some (.inl ((Int32.ofNat j) + (1 : Int32))), some (.inl (Int32.ofNat 11))] [] (fl_row f (21 + 4 * A) (upd (f (21 + 4 * A)) j z), l) Q) : fl_Tq (pw_P L xs) 338 5 [some (.inr (.inr (.inl (21, 21 + 4 * A)))), some (.inl z), some (.inl (Int32.ofNat j)), some (.inl (Int32.ofNat 11))] [] (f, l) Q := by
  refine fl_Tq.stp (pc' := 6) (lv' := [some (.inr (.inr (.inl (21, 21 + 4 * A)))), some (.inl z), some (.inl (Int32.ofNat j)), some (.inl (Int32.ofNat 11))]) (st' := [.inl (Int32.ofNat j)]) (m' := (f, l)) rfl rfl (fl_bo rfl) rfl ?_
  refine fl_Tq.stp (pc' := 7) (lv' := [some (.inr (.inr (.inl (21, 21 + 4 * A)))), some (.inl z), some (.inl (Int32.ofNat j)), some (.inl (Int32.ofNat 11))]) (st' := [.inl (Int32.ofNat 11), .inl (Int32.ofNat j)]) (m' := (f, l)) rfl rfl (fl_bo rfl) rfl ?_
  refine fl_Tq.jf rfl (fl_bo rfl) (c2_ge_f hk) rfl ?_
  refine fl_Tq.stp (pc' := 11) (lv' := [some (.inr (.inr (.inl (21, 21 + 4 * A)))), some (.inl z), some (.inl (Int32.ofNat j)), some (.inl (Int32.ofNat 11))]) (st' := [.inr (.inr (.inl (21, 21 + 4 * A)))]) (m' := (f, l)) rfl rfl (fl_bo rfl) rfl ?_
  refine fl_Tq.stp (pc' := 12) (lv' := [some (.inr (.inr (.inl (21, 21 + 4 * A)))), some (.inl z), some (.inl (Int32.ofNat j)), some (.inl (Int32.ofNat 11))]) (st' := [.inl (Int32.ofNat j), .inr (.inr (.inl (21, 21 + 4 * A)))]) (m' := (f, l)) rfl rfl (fl_oks_ok ⟨(t2_ky0 (by omega)), True.intro⟩) rfl ?_
  refine fl_Tq.stp (pc' := 13) (lv' := [some (.inr (.inr (.inl (21, 21 + 4 * A)))), some (.inl z), some (.inl (Int32.ofNat j)), some (.inl (Int32.ofNat 11))]) (st' := [.inl z, .inl (Int32.ofNat j), .inr (.inr (.inl (21, 21 + 4 * A)))]) (m' := (f, l)) rfl rfl (fl_oks_ok ⟨True.intro, (t2_ky0 (by omega)), True.intro⟩) rfl ?_
  refine fl_Tq.svV (p := 21 + 4 * A) (τ := 21) (n := 11) (z := (0, 0, 0)) (k := j) (m' := (fl_row f (21 + 4 * A) (upd (f (21 + 4 * A)) j z), l)) rfl (fl_oks_ok ⟨True.intro, True.intro, (t2_ky0 (by omega)), True.intro⟩) rfl (at_ofN (by omega)) (by omega) (t2_upn rfl) ?_
  refine fl_Tq.stp (pc' := 17) (lv' := [some (.inr (.inr (.inl (21, 21 + 4 * A)))), some (.inl z), some (.inl ((Int32.ofNat j) + (1 : Int32))), some (.inl (Int32.ofNat 11))]) (st' := []) (m' := (fl_row f (21 + 4 * A) (upd (f (21 + 4 * A)) j z), l)) rfl rfl (fl_bo rfl) rfl ?_
  refine fl_Tq.stp (pc' := 5) (lv' := [some (.inr (.inr (.inl (21, 21 + 4 * A)))), some (.inl z), some (.inl ((Int32.ofNat j) + (1 : Int32))), some (.inl (Int32.ofNat 11))]) (st' := []) (m' := (fl_row f (21 + 4 * A) (upd (f (21 + 4 * A)) j z), l)) rfl rfl (fl_bo rfl) rfl ?_
  exact k
theorem x_fil_C {L : Nat} {xs : Nat → Int32} {f : t2_F} {l : t2_L} {Q : Option fl_V → fl_M → Prop} {z : Int32} {A j : Nat} (hA1 : A < 16) (hk : ¬ ((Int32.ofNat j).toInt < (Int32.ofNat 11).toInt)) (k : Q none (f, l)) : fl_Tq (pw_P L xs) 338 5 [some (.inr (.inr (.inl (21, 21 + 4 * A)))), some (.inl z), some (.inl (Int32.ofNat j)), some (.inl (Int32.ofNat 11))] [] (f, l) Q := by
  refine fl_Tq.stp (pc' := 6) (lv' := [some (.inr (.inr (.inl (21, 21 + 4 * A)))), some (.inl z), some (.inl (Int32.ofNat j)), some (.inl (Int32.ofNat 11))]) (st' := [.inl (Int32.ofNat j)]) (m' := (f, l)) rfl rfl (fl_bo rfl) rfl ?_
  refine fl_Tq.stp (pc' := 7) (lv' := [some (.inr (.inr (.inl (21, 21 + 4 * A)))), some (.inl z), some (.inl (Int32.ofNat j)), some (.inl (Int32.ofNat 11))]) (st' := [.inl (Int32.ofNat 11), .inl (Int32.ofNat j)]) (m' := (f, l)) rfl rfl (fl_bo rfl) rfl ?_
  refine fl_Tq.jt rfl (fl_bo rfl) (c2_ge_t hk) rfl ?_
  exact fl_Tq.ret rfl rfl rfl k
theorem x_add_A {L : Nat} {xs : Nat → Int32} {f : t2_F} {l : t2_L} {Q : Option fl_V → fl_M → Prop} {a b c : Int32} {A : Nat} (hA : (f 1 5).toInt = (A : Int)) (hA1 : A < 16) (k : fl_Tq (pw_P L xs) 35 22 [some (.inr (.inr (.inl (1, 1)))), some (.inl a), some (.inl b), some (.inl c)] [.inl (f 4 6), .inl c, .inl b, .inl a, .inr (.inr (.inl (18, 18 + 4 * A)))] (f, l) Q) : fl_Tq (pw_P L xs) 35 0 [some (.inr (.inr (.inl (1, 1)))), some (.inl a), some (.inl b), some (.inl c)] [] (f, l) Q := by
  refine fl_Tq.stp (pc' := 1) (lv' := [some (.inr (.inr (.inl (1, 1)))), some (.inl a), some (.inl b), some (.inl c)]) (st' := [.inr (.inr (.inl (1, 1)))]) (m' := (f, l)) rfl rfl (fl_bo rfl) rfl ?_
  refine fl_Tq.stp (pc' := 4) (lv' := [some (.inr (.inr (.inl (1, 1)))), some (.inl a), some (.inl b), some (.inl c)]) (st' := [.inr (.inr (.inl (2, 2)))]) (m' := (f, l)) rfl rfl (fl_bo rfl) rfl ?_
  refine fl_Tq.stp (pc' := 5) (lv' := [some (.inr (.inr (.inl (1, 1)))), some (.inl a), some (.inl b), some (.inl c)]) (st' := [.inr (.inr (.inl (1, 1))), .inr (.inr (.inl (2, 2)))]) (m' := (f, l)) rfl rfl (fl_bo rfl) rfl ?_
  refine fl_Tq.gfV (k := 5) (v := f 1 5) rfl (fl_bo rfl) rfl rfl ?_
  refine fl_Tq.qld (p := 2) (τ := 2) (n := 16) (t := 18) (b := 16) (d := 3) (k := A) rfl (fl_bo rfl) rfl hA hA1 ?_
  show fl_Tq _ 35 9 [some (.inr (.inr (.inl (1, 1)))), some (.inl a), some (.inl b), some (.inl c)] [.inr (.inr (.inl (18, 18 + 4 * A)))] (f, l) _
  refine fl_Tq.stp (pc' := 10) (lv' := [some (.inr (.inr (.inl (1, 1)))), some (.inl a), some (.inl b), some (.inl c)]) (st' := [.inl a, .inr (.inr (.inl (18, 18 + 4 * A)))]) (m' := (f, l)) rfl rfl (fl_oks_ok ⟨(t2_kc0 hA1), True.intro⟩) rfl ?_
  refine fl_Tq.stp (pc' := 11) (lv' := [some (.inr (.inr (.inl (1, 1)))), some (.inl a), some (.inl b), some (.inl c)]) (st' := [.inl b, .inl a, .inr (.inr (.inl (18, 18 + 4 * A)))]) (m' := (f, l)) rfl rfl (fl_oks_ok ⟨True.intro, (t2_kc0 hA1), True.intro⟩) rfl ?_
  refine fl_Tq.stp (pc' := 12) (lv' := [some (.inr (.inr (.inl (1, 1)))), some (.inl a), some (.inl b), some (.inl c)]) (st' := [.inl c, .inl b, .inl a, .inr (.inr (.inl (18, 18 + 4 * A)))]) (m' := (f, l)) rfl rfl (fl_oks_ok ⟨True.intro, True.intro, (t2_kc0 hA1), True.intro⟩) rfl ?_
  refine fl_Tq.stp (pc' := 13) (lv' := [some (.inr (.inr (.inl (1, 1)))), some (.inl a), some (.inl b), some (.inl c)]) (st' := [.inr (.inr (.inl (1, 1))), .inl c, .inl b, .inl a, .inr (.inr (.inl (18, 18 + 4 * A)))]) (m' := (f, l)) rfl rfl (fl_oks_ok ⟨True.intro, True.intro, True.intro, (t2_kc0 hA1), True.intro⟩) rfl ?_
  refine fl_Tq.stp (pc' := 16) (lv' := [some (.inr (.inr (.inl (1, 1)))), some (.inl a), some (.inl b), some (.inl c)]) (st' := [.inr (.inr (.inl (3, 3))), .inl c, .inl b, .inl a, .inr (.inr (.inl (18, 18 + 4 * A)))]) (m' := (f, l)) rfl rfl (fl_oks_ok ⟨fl_okp (by decide +kernel) (by decide), True.intro, True.intro, True.intro, (t2_kc0 hA1), True.intro⟩) rfl ?_
  refine fl_Tq.stp (pc' := 19) (lv' := [some (.inr (.inr (.inl (1, 1)))), some (.inl a), some (.inl b), some (.inl c)]) (st' := [.inr (.inr (.inl (4, 4))), .inl c, .inl b, .inl a, .inr (.inr (.inl (18, 18 + 4 * A)))]) (m' := (f, l)) rfl rfl (fl_oks_ok ⟨fl_okp (by decide +kernel) (by decide), True.intro, True.intro, True.intro, (t2_kc0 hA1), True.intro⟩) rfl ?_
  refine fl_Tq.cB (c := (6 : Int32)) rfl (by decide +kernel) (fl_oks_ok ⟨fl_okp (by decide +kernel) (by decide), True.intro, True.intro, True.intro, (t2_kc0 hA1), True.intro⟩) ?_
  refine fl_Tq.ldV (p := 4) (τ := 4) (n := 30) (z := (0, 0, 0)) (k := 6) (v := f 4 6) rfl (fl_oks_ok ⟨True.intro, fl_okp (by decide +kernel) (by decide), True.intro, True.intro, True.intro, (t2_kc0 hA1), True.intro⟩) rfl (by decide +kernel) (by decide) rfl ?_
  exact k
theorem x_add_B {L : Nat} {xs : Nat → Int32} {f : t2_F} {l : t2_L} {Q : Option fl_V → fl_M → Prop} {a b c : Int32}  (k : Q (some (.inl (((f 1 5) + (1 : Int32)) - (1 : Int32)))) (fl_row f 1 (upd (f 1) 5 ((f 1 5) + (1 : Int32))), l)) : fl_Tq (pw_P L xs) 35 25 [some (.inr (.inr (.inl (1, 1)))), some (.inl a), some (.inl b), some (.inl c)] [] (f, l) Q := by
  refine fl_Tq.stp (pc' := 26) (lv' := [some (.inr (.inr (.inl (1, 1)))), some (.inl a), some (.inl b), some (.inl c)]) (st' := [.inr (.inr (.inl (1, 1)))]) (m' := (f, l)) rfl rfl (fl_bo rfl) rfl ?_
  refine fl_Tq.stp (pc' := 27) (lv' := [some (.inr (.inr (.inl (1, 1)))), some (.inl a), some (.inl b), some (.inl c)]) (st' := [.inr (.inr (.inl (1, 1))), .inr (.inr (.inl (1, 1)))]) (m' := (f, l)) rfl rfl (fl_bo rfl) rfl ?_
  refine fl_Tq.gfV (k := 5) (v := f 1 5) rfl (fl_bo rfl) rfl rfl ?_
  refine fl_Tq.cI (c := (1 : Int32)) rfl (by decide +kernel) (fl_bo rfl) ?_
  refine fl_Tq.stp (pc' := 32) (lv' := [some (.inr (.inr (.inl (1, 1)))), some (.inl a), some (.inl b), some (.inl c)]) (st' := [.inl ((f 1 5) + (1 : Int32)), .inr (.inr (.inl (1, 1)))]) (m' := (f, l)) rfl rfl (fl_bo rfl) rfl ?_
  refine fl_Tq.pfV (k := 5) (m' := (fl_row f 1 (upd (f 1) 5 ((f 1 5) + (1 : Int32))), l)) rfl (fl_bo rfl) rfl (t2_upn rfl) ?_
  refine fl_Tq.stp (pc' := 36) (lv' := [some (.inr (.inr (.inl (1, 1)))), some (.inl a), some (.inl b), some (.inl c)]) (st' := [.inr (.inr (.inl (1, 1)))]) (m' := (fl_row f 1 (upd (f 1) 5 ((f 1 5) + (1 : Int32))), l)) rfl rfl (fl_bo rfl) rfl ?_
  refine fl_Tq.gfV (k := 5) (v := (f 1 5) + (1 : Int32)) rfl (fl_bo rfl) rfl (by simp only [fl_row_self, upd_self]) ?_
  refine fl_Tq.cI (c := (1 : Int32)) rfl (by decide +kernel) (fl_bo rfl) ?_
  refine fl_Tq.stp (pc' := 41) (lv' := [some (.inr (.inr (.inl (1, 1)))), some (.inl a), some (.inl b), some (.inl c)]) (st' := [.inl (((f 1 5) + (1 : Int32)) - (1 : Int32))]) (m' := (fl_row f 1 (upd (f 1) 5 ((f 1 5) + (1 : Int32))), l)) rfl rfl (fl_bo rfl) rfl ?_
  exact fl_Tq.ret rfl rfl rfl k
theorem x_beg_A {L : Nat} {xs : Nat → Int32} {f : t2_F} {l : t2_L} {Q : Option fl_V → fl_M → Prop} {a b c d : Int32} {A : Nat} (hA1 : A < 16) (hcp : t2_cap a) (k : fl_Tq (pw_P L xs) 2 102 [some (.inr (.inr (.inl (18, 18 + 4 * A)))), some (.inl a), some (.inl b), some (.inl c), some (.inl d)] [.inl ((c0_putCharge_m (fl_row f (18 + 4 * A) (upd (upd (upd (upd (f (18 + 4 * A)) 0 a) 1 a) 5 c) 6 d)) A (t2_chargeBy_v b a)) (18 + 4 * A) 3), .inr (.inr (.inl (19, 19 + 4 * A)))] (fl_row (c0_putCharge_m (fl_row f (18 + 4 * A) (upd (upd (upd (upd (f (18 + 4 * A)) 0 a) 1 a) 5 c) 6 d)) A (t2_chargeBy_v b a)) (18 + 4 * A) (upd (upd (upd (upd (upd (upd (upd (upd (upd (upd (upd (upd ((c0_putCharge_m (fl_row f (18 + 4 * A) (upd (upd (upd (upd (f (18 + 4 * A)) 0 a) 1 a) 5 c) 6 d)) A (t2_chargeBy_v b a)) (18 + 4 * A)) 8 ((c0_putCharge_m (fl_row f (18 + 4 * A) (upd (upd (upd (upd (f (18 + 4 * A)) 0 a) 1 a) 5 c) 6 d)) A (t2_chargeBy_v b a)) (18 + 4 * A) 2)) 7 (0 : Int32)) 9 (0 : Int32)) 10 (0 : Int32)) 11 (0 : Int32)) 12 (0 : Int32)) 13 (0 : Int32)) 14 (-1000000 : Int32)) 15 (-1 : Int32)) 16 (0 : Int32)) 17 (-1 : Int32)) 18 (0 : Int32)), l) Q) : fl_Tq (pw_P L xs) 2 0 [some (.inr (.inr (.inl (18, 18 + 4 * A)))), some (.inl a), some (.inl b), some (.inl c), some (.inl d)] [] (f, l) Q := by
  refine fl_Tq.stp (pc' := 1) (lv' := [some (.inr (.inr (.inl (18, 18 + 4 * A)))), some (.inl a), some (.inl b), some (.inl c), some (.inl d)]) (st' := [.inr (.inr (.inl (18, 18 + 4 * A)))]) (m' := (f, l)) rfl rfl (fl_bo rfl) rfl ?_
  refine fl_Tq.stp (pc' := 2) (lv' := [some (.inr (.inr (.inl (18, 18 + 4 * A)))), some (.inl a), some (.inl b), some (.inl c), some (.inl d)]) (st' := [.inl a, .inr (.inr (.inl (18, 18 + 4 * A)))]) (m' := (f, l)) rfl rfl (fl_oks_ok ⟨(t2_kc0 (by omega)), True.intro⟩) rfl ?_
  refine fl_Tq.pfV (k := 0) (m' := (fl_row f (18 + 4 * A) (upd (f (18 + 4 * A)) 0 a), l)) rfl (fl_oks_ok ⟨True.intro, (t2_kc0 (by omega)), True.intro⟩) rfl (t2_upn rfl) ?_
  refine fl_Tq.stp (pc' := 6) (lv' := [some (.inr (.inr (.inl (18, 18 + 4 * A)))), some (.inl a), some (.inl b), some (.inl c), some (.inl d)]) (st' := [.inr (.inr (.inl (18, 18 + 4 * A)))]) (m' := (fl_row f (18 + 4 * A) (upd (f (18 + 4 * A)) 0 a), l)) rfl rfl (fl_bo rfl) rfl ?_
  refine fl_Tq.stp (pc' := 7) (lv' := [some (.inr (.inr (.inl (18, 18 + 4 * A)))), some (.inl a), some (.inl b), some (.inl c), some (.inl d)]) (st' := [.inl a, .inr (.inr (.inl (18, 18 + 4 * A)))]) (m' := (fl_row f (18 + 4 * A) (upd (f (18 + 4 * A)) 0 a), l)) rfl rfl (fl_oks_ok ⟨(t2_kc0 (by omega)), True.intro⟩) rfl ?_
  refine fl_Tq.pfV (k := 1) (m' := (fl_row f (18 + 4 * A) (upd (upd (f (18 + 4 * A)) 0 a) 1 a), l)) rfl (fl_oks_ok ⟨True.intro, (t2_kc0 (by omega)), True.intro⟩) rfl (t2_upr) ?_
  refine fl_Tq.stp (pc' := 11) (lv' := [some (.inr (.inr (.inl (18, 18 + 4 * A)))), some (.inl a), some (.inl b), some (.inl c), some (.inl d)]) (st' := [.inr (.inr (.inl (18, 18 + 4 * A)))]) (m' := (fl_row f (18 + 4 * A) (upd (upd (f (18 + 4 * A)) 0 a) 1 a), l)) rfl rfl (fl_bo rfl) rfl ?_
  refine fl_Tq.stp (pc' := 12) (lv' := [some (.inr (.inr (.inl (18, 18 + 4 * A)))), some (.inl a), some (.inl b), some (.inl c), some (.inl d)]) (st' := [.inl c, .inr (.inr (.inl (18, 18 + 4 * A)))]) (m' := (fl_row f (18 + 4 * A) (upd (upd (f (18 + 4 * A)) 0 a) 1 a), l)) rfl rfl (fl_oks_ok ⟨(t2_kc0 (by omega)), True.intro⟩) rfl ?_
  refine fl_Tq.pfV (k := 5) (m' := (fl_row f (18 + 4 * A) (upd (upd (upd (f (18 + 4 * A)) 0 a) 1 a) 5 c), l)) rfl (fl_oks_ok ⟨True.intro, (t2_kc0 (by omega)), True.intro⟩) rfl (t2_upr) ?_
  refine fl_Tq.stp (pc' := 16) (lv' := [some (.inr (.inr (.inl (18, 18 + 4 * A)))), some (.inl a), some (.inl b), some (.inl c), some (.inl d)]) (st' := [.inr (.inr (.inl (18, 18 + 4 * A)))]) (m' := (fl_row f (18 + 4 * A) (upd (upd (upd (f (18 + 4 * A)) 0 a) 1 a) 5 c), l)) rfl rfl (fl_bo rfl) rfl ?_
  refine fl_Tq.stp (pc' := 18) (lv' := [some (.inr (.inr (.inl (18, 18 + 4 * A)))), some (.inl a), some (.inl b), some (.inl c), some (.inl d)]) (st' := [.inl d, .inr (.inr (.inl (18, 18 + 4 * A)))]) (m' := (fl_row f (18 + 4 * A) (upd (upd (upd (f (18 + 4 * A)) 0 a) 1 a) 5 c), l)) rfl rfl (fl_oks_ok ⟨(t2_kc0 (by omega)), True.intro⟩) rfl ?_
  refine fl_Tq.pfV (k := 6) (m' := (fl_row f (18 + 4 * A) (upd (upd (upd (upd (f (18 + 4 * A)) 0 a) 1 a) 5 c) 6 d), l)) rfl (fl_oks_ok ⟨True.intro, (t2_kc0 (by omega)), True.intro⟩) rfl (t2_upr) ?_
  refine fl_Tq.stp (pc' := 22) (lv' := [some (.inr (.inr (.inl (18, 18 + 4 * A)))), some (.inl a), some (.inl b), some (.inl c), some (.inl d)]) (st' := [.inr (.inr (.inl (18, 18 + 4 * A)))]) (m' := (fl_row f (18 + 4 * A) (upd (upd (upd (upd (f (18 + 4 * A)) 0 a) 1 a) 5 c) 6 d), l)) rfl rfl (fl_bo rfl) rfl ?_
  refine fl_Tq.stp (pc' := 23) (lv' := [some (.inr (.inr (.inl (18, 18 + 4 * A)))), some (.inl a), some (.inl b), some (.inl c), some (.inl d)]) (st' := [.inl b, .inr (.inr (.inl (18, 18 + 4 * A)))]) (m' := (fl_row f (18 + 4 * A) (upd (upd (upd (upd (f (18 + 4 * A)) 0 a) 1 a) 5 c) 6 d), l)) rfl rfl (fl_oks_ok ⟨(t2_kc0 (by omega)), True.intro⟩) rfl ?_
  refine fl_Tq.stp (pc' := 24) (lv' := [some (.inr (.inr (.inl (18, 18 + 4 * A)))), some (.inl a), some (.inl b), some (.inl c), some (.inl d)]) (st' := [.inl a, .inl b, .inr (.inr (.inl (18, 18 + 4 * A)))]) (m' := (fl_row f (18 + 4 * A) (upd (upd (upd (upd (f (18 + 4 * A)) 0 a) 1 a) 5 c) 6 d), l)) rfl rfl (fl_oks_ok ⟨True.intro, (t2_kc0 (by omega)), True.intro⟩) rfl ?_
  refine fl_Tq.cal rfl rfl (fl_oks_ok ⟨True.intro, True.intro, (t2_kc0 (by omega)), True.intro⟩) rfl ?_
  refine t2_chargeBy_q  ?_
  show fl_Tq _ 2 27 [some (.inr (.inr (.inl (18, 18 + 4 * A)))), some (.inl a), some (.inl b), some (.inl c), some (.inl d)] [.inl (t2_chargeBy_v b a), .inr (.inr (.inl (18, 18 + 4 * A)))] (fl_row f (18 + 4 * A) (upd (upd (upd (upd (f (18 + 4 * A)) 0 a) 1 a) 5 c) 6 d), l) _
  refine fl_Tq.cal rfl rfl (fl_oks_ok ⟨True.intro, (t2_kc0 (by omega)), True.intro⟩) rfl ?_
  refine c0_putCharge_q hA1 (by simp only [fl_row_self, upd_self, upd_ne (by decide : 0 ≠ 6), upd_ne (by decide : 0 ≠ 5), upd_ne (by decide : 0 ≠ 1)]; exact hcp) ?_
  show fl_Tq _ 2 30 [some (.inr (.inr (.inl (18, 18 + 4 * A)))), some (.inl a), some (.inl b), some (.inl c), some (.inl d)] [] (c0_putCharge_m (fl_row f (18 + 4 * A) (upd (upd (upd (upd (f (18 + 4 * A)) 0 a) 1 a) 5 c) 6 d)) A (t2_chargeBy_v b a), l) _
  refine fl_Tq.stp (pc' := 31) (lv' := [some (.inr (.inr (.inl (18, 18 + 4 * A)))), some (.inl a), some (.inl b), some (.inl c), some (.inl d)]) (st' := [.inr (.inr (.inl (18, 18 + 4 * A)))]) (m' := (c0_putCharge_m (fl_row f (18 + 4 * A) (upd (upd (upd (upd (f (18 + 4 * A)) 0 a) 1 a) 5 c) 6 d)) A (t2_chargeBy_v b a), l)) rfl rfl (fl_bo rfl) rfl ?_
  refine fl_Tq.stp (pc' := 32) (lv' := [some (.inr (.inr (.inl (18, 18 + 4 * A)))), some (.inl a), some (.inl b), some (.inl c), some (.inl d)]) (st' := [.inr (.inr (.inl (18, 18 + 4 * A))), .inr (.inr (.inl (18, 18 + 4 * A)))]) (m' := (c0_putCharge_m (fl_row f (18 + 4 * A) (upd (upd (upd (upd (f (18 + 4 * A)) 0 a) 1 a) 5 c) 6 d)) A (t2_chargeBy_v b a), l)) rfl rfl (fl_oks_ok ⟨(t2_kc0 (by omega)), True.intro⟩) rfl ?_
  refine fl_Tq.gfV (k := 2) (v := (c0_putCharge_m (fl_row f (18 + 4 * A) (upd (upd (upd (upd (f (18 + 4 * A)) 0 a) 1 a) 5 c) 6 d)) A (t2_chargeBy_v b a)) (18 + 4 * A) 2) rfl (fl_oks_ok ⟨(t2_kc0 (by omega)), (t2_kc0 (by omega)), True.intro⟩) rfl rfl ?_
  refine fl_Tq.pfV (k := 8) (m' := (fl_row (c0_putCharge_m (fl_row f (18 + 4 * A) (upd (upd (upd (upd (f (18 + 4 * A)) 0 a) 1 a) 5 c) 6 d)) A (t2_chargeBy_v b a)) (18 + 4 * A) (upd ((c0_putCharge_m (fl_row f (18 + 4 * A) (upd (upd (upd (upd (f (18 + 4 * A)) 0 a) 1 a) 5 c) 6 d)) A (t2_chargeBy_v b a)) (18 + 4 * A)) 8 ((c0_putCharge_m (fl_row f (18 + 4 * A) (upd (upd (upd (upd (f (18 + 4 * A)) 0 a) 1 a) 5 c) 6 d)) A (t2_chargeBy_v b a)) (18 + 4 * A) 2)), l)) rfl (fl_oks_ok ⟨True.intro, (t2_kc0 (by omega)), True.intro⟩) rfl (t2_upn rfl) ?_
  refine fl_Tq.stp (pc' := 39) (lv' := [some (.inr (.inr (.inl (18, 18 + 4 * A)))), some (.inl a), some (.inl b), some (.inl c), some (.inl d)]) (st' := [.inr (.inr (.inl (18, 18 + 4 * A)))]) (m' := (fl_row (c0_putCharge_m (fl_row f (18 + 4 * A) (upd (upd (upd (upd (f (18 + 4 * A)) 0 a) 1 a) 5 c) 6 d)) A (t2_chargeBy_v b a)) (18 + 4 * A) (upd ((c0_putCharge_m (fl_row f (18 + 4 * A) (upd (upd (upd (upd (f (18 + 4 * A)) 0 a) 1 a) 5 c) 6 d)) A (t2_chargeBy_v b a)) (18 + 4 * A)) 8 ((c0_putCharge_m (fl_row f (18 + 4 * A) (upd (upd (upd (upd (f (18 + 4 * A)) 0 a) 1 a) 5 c) 6 d)) A (t2_chargeBy_v b a)) (18 + 4 * A) 2)), l)) rfl rfl (fl_bo rfl) rfl ?_
  refine fl_Tq.cI (c := (0 : Int32)) rfl (by decide +kernel) (fl_oks_ok ⟨(t2_kc0 (by omega)), True.intro⟩) ?_
  refine fl_Tq.pfV (k := 7) (m' := (fl_row (c0_putCharge_m (fl_row f (18 + 4 * A) (upd (upd (upd (upd (f (18 + 4 * A)) 0 a) 1 a) 5 c) 6 d)) A (t2_chargeBy_v b a)) (18 + 4 * A) (upd (upd ((c0_putCharge_m (fl_row f (18 + 4 * A) (upd (upd (upd (upd (f (18 + 4 * A)) 0 a) 1 a) 5 c) 6 d)) A (t2_chargeBy_v b a)) (18 + 4 * A)) 8 ((c0_putCharge_m (fl_row f (18 + 4 * A) (upd (upd (upd (upd (f (18 + 4 * A)) 0 a) 1 a) 5 c) 6 d)) A (t2_chargeBy_v b a)) (18 + 4 * A) 2)) 7 (0 : Int32)), l)) rfl (fl_oks_ok ⟨True.intro, (t2_kc0 (by omega)), True.intro⟩) rfl (t2_upr) ?_
  refine fl_Tq.stp (pc' := 44) (lv' := [some (.inr (.inr (.inl (18, 18 + 4 * A)))), some (.inl a), some (.inl b), some (.inl c), some (.inl d)]) (st' := [.inr (.inr (.inl (18, 18 + 4 * A)))]) (m' := (fl_row (c0_putCharge_m (fl_row f (18 + 4 * A) (upd (upd (upd (upd (f (18 + 4 * A)) 0 a) 1 a) 5 c) 6 d)) A (t2_chargeBy_v b a)) (18 + 4 * A) (upd (upd ((c0_putCharge_m (fl_row f (18 + 4 * A) (upd (upd (upd (upd (f (18 + 4 * A)) 0 a) 1 a) 5 c) 6 d)) A (t2_chargeBy_v b a)) (18 + 4 * A)) 8 ((c0_putCharge_m (fl_row f (18 + 4 * A) (upd (upd (upd (upd (f (18 + 4 * A)) 0 a) 1 a) 5 c) 6 d)) A (t2_chargeBy_v b a)) (18 + 4 * A) 2)) 7 (0 : Int32)), l)) rfl rfl (fl_bo rfl) rfl ?_
  refine fl_Tq.cI (c := (0 : Int32)) rfl (by decide +kernel) (fl_oks_ok ⟨(t2_kc0 (by omega)), True.intro⟩) ?_
  refine fl_Tq.pfV (k := 9) (m' := (fl_row (c0_putCharge_m (fl_row f (18 + 4 * A) (upd (upd (upd (upd (f (18 + 4 * A)) 0 a) 1 a) 5 c) 6 d)) A (t2_chargeBy_v b a)) (18 + 4 * A) (upd (upd (upd ((c0_putCharge_m (fl_row f (18 + 4 * A) (upd (upd (upd (upd (f (18 + 4 * A)) 0 a) 1 a) 5 c) 6 d)) A (t2_chargeBy_v b a)) (18 + 4 * A)) 8 ((c0_putCharge_m (fl_row f (18 + 4 * A) (upd (upd (upd (upd (f (18 + 4 * A)) 0 a) 1 a) 5 c) 6 d)) A (t2_chargeBy_v b a)) (18 + 4 * A) 2)) 7 (0 : Int32)) 9 (0 : Int32)), l)) rfl (fl_oks_ok ⟨True.intro, (t2_kc0 (by omega)), True.intro⟩) rfl (t2_upr) ?_
  refine fl_Tq.stp (pc' := 49) (lv' := [some (.inr (.inr (.inl (18, 18 + 4 * A)))), some (.inl a), some (.inl b), some (.inl c), some (.inl d)]) (st' := [.inr (.inr (.inl (18, 18 + 4 * A)))]) (m' := (fl_row (c0_putCharge_m (fl_row f (18 + 4 * A) (upd (upd (upd (upd (f (18 + 4 * A)) 0 a) 1 a) 5 c) 6 d)) A (t2_chargeBy_v b a)) (18 + 4 * A) (upd (upd (upd ((c0_putCharge_m (fl_row f (18 + 4 * A) (upd (upd (upd (upd (f (18 + 4 * A)) 0 a) 1 a) 5 c) 6 d)) A (t2_chargeBy_v b a)) (18 + 4 * A)) 8 ((c0_putCharge_m (fl_row f (18 + 4 * A) (upd (upd (upd (upd (f (18 + 4 * A)) 0 a) 1 a) 5 c) 6 d)) A (t2_chargeBy_v b a)) (18 + 4 * A) 2)) 7 (0 : Int32)) 9 (0 : Int32)), l)) rfl rfl (fl_bo rfl) rfl ?_
  refine fl_Tq.cI (c := (0 : Int32)) rfl (by decide +kernel) (fl_oks_ok ⟨(t2_kc0 (by omega)), True.intro⟩) ?_
  refine fl_Tq.pfV (k := 10) (m' := (fl_row (c0_putCharge_m (fl_row f (18 + 4 * A) (upd (upd (upd (upd (f (18 + 4 * A)) 0 a) 1 a) 5 c) 6 d)) A (t2_chargeBy_v b a)) (18 + 4 * A) (upd (upd (upd (upd ((c0_putCharge_m (fl_row f (18 + 4 * A) (upd (upd (upd (upd (f (18 + 4 * A)) 0 a) 1 a) 5 c) 6 d)) A (t2_chargeBy_v b a)) (18 + 4 * A)) 8 ((c0_putCharge_m (fl_row f (18 + 4 * A) (upd (upd (upd (upd (f (18 + 4 * A)) 0 a) 1 a) 5 c) 6 d)) A (t2_chargeBy_v b a)) (18 + 4 * A) 2)) 7 (0 : Int32)) 9 (0 : Int32)) 10 (0 : Int32)), l)) rfl (fl_oks_ok ⟨True.intro, (t2_kc0 (by omega)), True.intro⟩) rfl (t2_upr) ?_
  refine fl_Tq.stp (pc' := 54) (lv' := [some (.inr (.inr (.inl (18, 18 + 4 * A)))), some (.inl a), some (.inl b), some (.inl c), some (.inl d)]) (st' := [.inr (.inr (.inl (18, 18 + 4 * A)))]) (m' := (fl_row (c0_putCharge_m (fl_row f (18 + 4 * A) (upd (upd (upd (upd (f (18 + 4 * A)) 0 a) 1 a) 5 c) 6 d)) A (t2_chargeBy_v b a)) (18 + 4 * A) (upd (upd (upd (upd ((c0_putCharge_m (fl_row f (18 + 4 * A) (upd (upd (upd (upd (f (18 + 4 * A)) 0 a) 1 a) 5 c) 6 d)) A (t2_chargeBy_v b a)) (18 + 4 * A)) 8 ((c0_putCharge_m (fl_row f (18 + 4 * A) (upd (upd (upd (upd (f (18 + 4 * A)) 0 a) 1 a) 5 c) 6 d)) A (t2_chargeBy_v b a)) (18 + 4 * A) 2)) 7 (0 : Int32)) 9 (0 : Int32)) 10 (0 : Int32)), l)) rfl rfl (fl_bo rfl) rfl ?_
  refine fl_Tq.cI (c := (0 : Int32)) rfl (by decide +kernel) (fl_oks_ok ⟨(t2_kc0 (by omega)), True.intro⟩) ?_
  refine fl_Tq.pfV (k := 11) (m' := (fl_row (c0_putCharge_m (fl_row f (18 + 4 * A) (upd (upd (upd (upd (f (18 + 4 * A)) 0 a) 1 a) 5 c) 6 d)) A (t2_chargeBy_v b a)) (18 + 4 * A) (upd (upd (upd (upd (upd ((c0_putCharge_m (fl_row f (18 + 4 * A) (upd (upd (upd (upd (f (18 + 4 * A)) 0 a) 1 a) 5 c) 6 d)) A (t2_chargeBy_v b a)) (18 + 4 * A)) 8 ((c0_putCharge_m (fl_row f (18 + 4 * A) (upd (upd (upd (upd (f (18 + 4 * A)) 0 a) 1 a) 5 c) 6 d)) A (t2_chargeBy_v b a)) (18 + 4 * A) 2)) 7 (0 : Int32)) 9 (0 : Int32)) 10 (0 : Int32)) 11 (0 : Int32)), l)) rfl (fl_oks_ok ⟨True.intro, (t2_kc0 (by omega)), True.intro⟩) rfl (t2_upr) ?_
  refine fl_Tq.stp (pc' := 59) (lv' := [some (.inr (.inr (.inl (18, 18 + 4 * A)))), some (.inl a), some (.inl b), some (.inl c), some (.inl d)]) (st' := [.inr (.inr (.inl (18, 18 + 4 * A)))]) (m' := (fl_row (c0_putCharge_m (fl_row f (18 + 4 * A) (upd (upd (upd (upd (f (18 + 4 * A)) 0 a) 1 a) 5 c) 6 d)) A (t2_chargeBy_v b a)) (18 + 4 * A) (upd (upd (upd (upd (upd ((c0_putCharge_m (fl_row f (18 + 4 * A) (upd (upd (upd (upd (f (18 + 4 * A)) 0 a) 1 a) 5 c) 6 d)) A (t2_chargeBy_v b a)) (18 + 4 * A)) 8 ((c0_putCharge_m (fl_row f (18 + 4 * A) (upd (upd (upd (upd (f (18 + 4 * A)) 0 a) 1 a) 5 c) 6 d)) A (t2_chargeBy_v b a)) (18 + 4 * A) 2)) 7 (0 : Int32)) 9 (0 : Int32)) 10 (0 : Int32)) 11 (0 : Int32)), l)) rfl rfl (fl_bo rfl) rfl ?_
  refine fl_Tq.cI (c := (0 : Int32)) rfl (by decide +kernel) (fl_oks_ok ⟨(t2_kc0 (by omega)), True.intro⟩) ?_
  refine fl_Tq.pfV (k := 12) (m' := (fl_row (c0_putCharge_m (fl_row f (18 + 4 * A) (upd (upd (upd (upd (f (18 + 4 * A)) 0 a) 1 a) 5 c) 6 d)) A (t2_chargeBy_v b a)) (18 + 4 * A) (upd (upd (upd (upd (upd (upd ((c0_putCharge_m (fl_row f (18 + 4 * A) (upd (upd (upd (upd (f (18 + 4 * A)) 0 a) 1 a) 5 c) 6 d)) A (t2_chargeBy_v b a)) (18 + 4 * A)) 8 ((c0_putCharge_m (fl_row f (18 + 4 * A) (upd (upd (upd (upd (f (18 + 4 * A)) 0 a) 1 a) 5 c) 6 d)) A (t2_chargeBy_v b a)) (18 + 4 * A) 2)) 7 (0 : Int32)) 9 (0 : Int32)) 10 (0 : Int32)) 11 (0 : Int32)) 12 (0 : Int32)), l)) rfl (fl_oks_ok ⟨True.intro, (t2_kc0 (by omega)), True.intro⟩) rfl (t2_upr) ?_
  refine fl_Tq.stp (pc' := 64) (lv' := [some (.inr (.inr (.inl (18, 18 + 4 * A)))), some (.inl a), some (.inl b), some (.inl c), some (.inl d)]) (st' := [.inr (.inr (.inl (18, 18 + 4 * A)))]) (m' := (fl_row (c0_putCharge_m (fl_row f (18 + 4 * A) (upd (upd (upd (upd (f (18 + 4 * A)) 0 a) 1 a) 5 c) 6 d)) A (t2_chargeBy_v b a)) (18 + 4 * A) (upd (upd (upd (upd (upd (upd ((c0_putCharge_m (fl_row f (18 + 4 * A) (upd (upd (upd (upd (f (18 + 4 * A)) 0 a) 1 a) 5 c) 6 d)) A (t2_chargeBy_v b a)) (18 + 4 * A)) 8 ((c0_putCharge_m (fl_row f (18 + 4 * A) (upd (upd (upd (upd (f (18 + 4 * A)) 0 a) 1 a) 5 c) 6 d)) A (t2_chargeBy_v b a)) (18 + 4 * A) 2)) 7 (0 : Int32)) 9 (0 : Int32)) 10 (0 : Int32)) 11 (0 : Int32)) 12 (0 : Int32)), l)) rfl rfl (fl_bo rfl) rfl ?_
  refine fl_Tq.cI (c := (0 : Int32)) rfl (by decide +kernel) (fl_oks_ok ⟨(t2_kc0 (by omega)), True.intro⟩) ?_
  refine fl_Tq.pfV (k := 13) (m' := (fl_row (c0_putCharge_m (fl_row f (18 + 4 * A) (upd (upd (upd (upd (f (18 + 4 * A)) 0 a) 1 a) 5 c) 6 d)) A (t2_chargeBy_v b a)) (18 + 4 * A) (upd (upd (upd (upd (upd (upd (upd ((c0_putCharge_m (fl_row f (18 + 4 * A) (upd (upd (upd (upd (f (18 + 4 * A)) 0 a) 1 a) 5 c) 6 d)) A (t2_chargeBy_v b a)) (18 + 4 * A)) 8 ((c0_putCharge_m (fl_row f (18 + 4 * A) (upd (upd (upd (upd (f (18 + 4 * A)) 0 a) 1 a) 5 c) 6 d)) A (t2_chargeBy_v b a)) (18 + 4 * A) 2)) 7 (0 : Int32)) 9 (0 : Int32)) 10 (0 : Int32)) 11 (0 : Int32)) 12 (0 : Int32)) 13 (0 : Int32)), l)) rfl (fl_oks_ok ⟨True.intro, (t2_kc0 (by omega)), True.intro⟩) rfl (t2_upr) ?_
  refine fl_Tq.stp (pc' := 69) (lv' := [some (.inr (.inr (.inl (18, 18 + 4 * A)))), some (.inl a), some (.inl b), some (.inl c), some (.inl d)]) (st' := [.inr (.inr (.inl (18, 18 + 4 * A)))]) (m' := (fl_row (c0_putCharge_m (fl_row f (18 + 4 * A) (upd (upd (upd (upd (f (18 + 4 * A)) 0 a) 1 a) 5 c) 6 d)) A (t2_chargeBy_v b a)) (18 + 4 * A) (upd (upd (upd (upd (upd (upd (upd ((c0_putCharge_m (fl_row f (18 + 4 * A) (upd (upd (upd (upd (f (18 + 4 * A)) 0 a) 1 a) 5 c) 6 d)) A (t2_chargeBy_v b a)) (18 + 4 * A)) 8 ((c0_putCharge_m (fl_row f (18 + 4 * A) (upd (upd (upd (upd (f (18 + 4 * A)) 0 a) 1 a) 5 c) 6 d)) A (t2_chargeBy_v b a)) (18 + 4 * A) 2)) 7 (0 : Int32)) 9 (0 : Int32)) 10 (0 : Int32)) 11 (0 : Int32)) 12 (0 : Int32)) 13 (0 : Int32)), l)) rfl rfl (fl_bo rfl) rfl ?_
  refine fl_Tq.stp (pc' := 71) (lv' := [some (.inr (.inr (.inl (18, 18 + 4 * A)))), some (.inl a), some (.inl b), some (.inl c), some (.inl d)]) (st' := [.inl (-1000000 : Int32), .inr (.inr (.inl (18, 18 + 4 * A)))]) (m' := (fl_row (c0_putCharge_m (fl_row f (18 + 4 * A) (upd (upd (upd (upd (f (18 + 4 * A)) 0 a) 1 a) 5 c) 6 d)) A (t2_chargeBy_v b a)) (18 + 4 * A) (upd (upd (upd (upd (upd (upd (upd ((c0_putCharge_m (fl_row f (18 + 4 * A) (upd (upd (upd (upd (f (18 + 4 * A)) 0 a) 1 a) 5 c) 6 d)) A (t2_chargeBy_v b a)) (18 + 4 * A)) 8 ((c0_putCharge_m (fl_row f (18 + 4 * A) (upd (upd (upd (upd (f (18 + 4 * A)) 0 a) 1 a) 5 c) 6 d)) A (t2_chargeBy_v b a)) (18 + 4 * A) 2)) 7 (0 : Int32)) 9 (0 : Int32)) 10 (0 : Int32)) 11 (0 : Int32)) 12 (0 : Int32)) 13 (0 : Int32)), l)) rfl rfl (fl_oks_ok ⟨(t2_kc0 (by omega)), True.intro⟩) rfl ?_
  refine fl_Tq.pfV (k := 14) (m' := (fl_row (c0_putCharge_m (fl_row f (18 + 4 * A) (upd (upd (upd (upd (f (18 + 4 * A)) 0 a) 1 a) 5 c) 6 d)) A (t2_chargeBy_v b a)) (18 + 4 * A) (upd (upd (upd (upd (upd (upd (upd (upd ((c0_putCharge_m (fl_row f (18 + 4 * A) (upd (upd (upd (upd (f (18 + 4 * A)) 0 a) 1 a) 5 c) 6 d)) A (t2_chargeBy_v b a)) (18 + 4 * A)) 8 ((c0_putCharge_m (fl_row f (18 + 4 * A) (upd (upd (upd (upd (f (18 + 4 * A)) 0 a) 1 a) 5 c) 6 d)) A (t2_chargeBy_v b a)) (18 + 4 * A) 2)) 7 (0 : Int32)) 9 (0 : Int32)) 10 (0 : Int32)) 11 (0 : Int32)) 12 (0 : Int32)) 13 (0 : Int32)) 14 (-1000000 : Int32)), l)) rfl (fl_oks_ok ⟨True.intro, (t2_kc0 (by omega)), True.intro⟩) rfl (t2_upr) ?_
  refine fl_Tq.stp (pc' := 75) (lv' := [some (.inr (.inr (.inl (18, 18 + 4 * A)))), some (.inl a), some (.inl b), some (.inl c), some (.inl d)]) (st' := [.inr (.inr (.inl (18, 18 + 4 * A)))]) (m' := (fl_row (c0_putCharge_m (fl_row f (18 + 4 * A) (upd (upd (upd (upd (f (18 + 4 * A)) 0 a) 1 a) 5 c) 6 d)) A (t2_chargeBy_v b a)) (18 + 4 * A) (upd (upd (upd (upd (upd (upd (upd (upd ((c0_putCharge_m (fl_row f (18 + 4 * A) (upd (upd (upd (upd (f (18 + 4 * A)) 0 a) 1 a) 5 c) 6 d)) A (t2_chargeBy_v b a)) (18 + 4 * A)) 8 ((c0_putCharge_m (fl_row f (18 + 4 * A) (upd (upd (upd (upd (f (18 + 4 * A)) 0 a) 1 a) 5 c) 6 d)) A (t2_chargeBy_v b a)) (18 + 4 * A) 2)) 7 (0 : Int32)) 9 (0 : Int32)) 10 (0 : Int32)) 11 (0 : Int32)) 12 (0 : Int32)) 13 (0 : Int32)) 14 (-1000000 : Int32)), l)) rfl rfl (fl_bo rfl) rfl ?_
  refine fl_Tq.cI (c := (-1 : Int32)) rfl (by decide +kernel) (fl_oks_ok ⟨(t2_kc0 (by omega)), True.intro⟩) ?_
  refine fl_Tq.pfV (k := 15) (m' := (fl_row (c0_putCharge_m (fl_row f (18 + 4 * A) (upd (upd (upd (upd (f (18 + 4 * A)) 0 a) 1 a) 5 c) 6 d)) A (t2_chargeBy_v b a)) (18 + 4 * A) (upd (upd (upd (upd (upd (upd (upd (upd (upd ((c0_putCharge_m (fl_row f (18 + 4 * A) (upd (upd (upd (upd (f (18 + 4 * A)) 0 a) 1 a) 5 c) 6 d)) A (t2_chargeBy_v b a)) (18 + 4 * A)) 8 ((c0_putCharge_m (fl_row f (18 + 4 * A) (upd (upd (upd (upd (f (18 + 4 * A)) 0 a) 1 a) 5 c) 6 d)) A (t2_chargeBy_v b a)) (18 + 4 * A) 2)) 7 (0 : Int32)) 9 (0 : Int32)) 10 (0 : Int32)) 11 (0 : Int32)) 12 (0 : Int32)) 13 (0 : Int32)) 14 (-1000000 : Int32)) 15 (-1 : Int32)), l)) rfl (fl_oks_ok ⟨True.intro, (t2_kc0 (by omega)), True.intro⟩) rfl (t2_upr) ?_
  refine fl_Tq.stp (pc' := 80) (lv' := [some (.inr (.inr (.inl (18, 18 + 4 * A)))), some (.inl a), some (.inl b), some (.inl c), some (.inl d)]) (st' := [.inr (.inr (.inl (18, 18 + 4 * A)))]) (m' := (fl_row (c0_putCharge_m (fl_row f (18 + 4 * A) (upd (upd (upd (upd (f (18 + 4 * A)) 0 a) 1 a) 5 c) 6 d)) A (t2_chargeBy_v b a)) (18 + 4 * A) (upd (upd (upd (upd (upd (upd (upd (upd (upd ((c0_putCharge_m (fl_row f (18 + 4 * A) (upd (upd (upd (upd (f (18 + 4 * A)) 0 a) 1 a) 5 c) 6 d)) A (t2_chargeBy_v b a)) (18 + 4 * A)) 8 ((c0_putCharge_m (fl_row f (18 + 4 * A) (upd (upd (upd (upd (f (18 + 4 * A)) 0 a) 1 a) 5 c) 6 d)) A (t2_chargeBy_v b a)) (18 + 4 * A) 2)) 7 (0 : Int32)) 9 (0 : Int32)) 10 (0 : Int32)) 11 (0 : Int32)) 12 (0 : Int32)) 13 (0 : Int32)) 14 (-1000000 : Int32)) 15 (-1 : Int32)), l)) rfl rfl (fl_bo rfl) rfl ?_
  refine fl_Tq.cI (c := (0 : Int32)) rfl (by decide +kernel) (fl_oks_ok ⟨(t2_kc0 (by omega)), True.intro⟩) ?_
  refine fl_Tq.pfV (k := 16) (m' := (fl_row (c0_putCharge_m (fl_row f (18 + 4 * A) (upd (upd (upd (upd (f (18 + 4 * A)) 0 a) 1 a) 5 c) 6 d)) A (t2_chargeBy_v b a)) (18 + 4 * A) (upd (upd (upd (upd (upd (upd (upd (upd (upd (upd ((c0_putCharge_m (fl_row f (18 + 4 * A) (upd (upd (upd (upd (f (18 + 4 * A)) 0 a) 1 a) 5 c) 6 d)) A (t2_chargeBy_v b a)) (18 + 4 * A)) 8 ((c0_putCharge_m (fl_row f (18 + 4 * A) (upd (upd (upd (upd (f (18 + 4 * A)) 0 a) 1 a) 5 c) 6 d)) A (t2_chargeBy_v b a)) (18 + 4 * A) 2)) 7 (0 : Int32)) 9 (0 : Int32)) 10 (0 : Int32)) 11 (0 : Int32)) 12 (0 : Int32)) 13 (0 : Int32)) 14 (-1000000 : Int32)) 15 (-1 : Int32)) 16 (0 : Int32)), l)) rfl (fl_oks_ok ⟨True.intro, (t2_kc0 (by omega)), True.intro⟩) rfl (t2_upr) ?_
  refine fl_Tq.stp (pc' := 85) (lv' := [some (.inr (.inr (.inl (18, 18 + 4 * A)))), some (.inl a), some (.inl b), some (.inl c), some (.inl d)]) (st' := [.inr (.inr (.inl (18, 18 + 4 * A)))]) (m' := (fl_row (c0_putCharge_m (fl_row f (18 + 4 * A) (upd (upd (upd (upd (f (18 + 4 * A)) 0 a) 1 a) 5 c) 6 d)) A (t2_chargeBy_v b a)) (18 + 4 * A) (upd (upd (upd (upd (upd (upd (upd (upd (upd (upd ((c0_putCharge_m (fl_row f (18 + 4 * A) (upd (upd (upd (upd (f (18 + 4 * A)) 0 a) 1 a) 5 c) 6 d)) A (t2_chargeBy_v b a)) (18 + 4 * A)) 8 ((c0_putCharge_m (fl_row f (18 + 4 * A) (upd (upd (upd (upd (f (18 + 4 * A)) 0 a) 1 a) 5 c) 6 d)) A (t2_chargeBy_v b a)) (18 + 4 * A) 2)) 7 (0 : Int32)) 9 (0 : Int32)) 10 (0 : Int32)) 11 (0 : Int32)) 12 (0 : Int32)) 13 (0 : Int32)) 14 (-1000000 : Int32)) 15 (-1 : Int32)) 16 (0 : Int32)), l)) rfl rfl (fl_bo rfl) rfl ?_
  refine fl_Tq.cI (c := (-1 : Int32)) rfl (by decide +kernel) (fl_oks_ok ⟨(t2_kc0 (by omega)), True.intro⟩) ?_
  refine fl_Tq.pfV (k := 17) (m' := (fl_row (c0_putCharge_m (fl_row f (18 + 4 * A) (upd (upd (upd (upd (f (18 + 4 * A)) 0 a) 1 a) 5 c) 6 d)) A (t2_chargeBy_v b a)) (18 + 4 * A) (upd (upd (upd (upd (upd (upd (upd (upd (upd (upd (upd ((c0_putCharge_m (fl_row f (18 + 4 * A) (upd (upd (upd (upd (f (18 + 4 * A)) 0 a) 1 a) 5 c) 6 d)) A (t2_chargeBy_v b a)) (18 + 4 * A)) 8 ((c0_putCharge_m (fl_row f (18 + 4 * A) (upd (upd (upd (upd (f (18 + 4 * A)) 0 a) 1 a) 5 c) 6 d)) A (t2_chargeBy_v b a)) (18 + 4 * A) 2)) 7 (0 : Int32)) 9 (0 : Int32)) 10 (0 : Int32)) 11 (0 : Int32)) 12 (0 : Int32)) 13 (0 : Int32)) 14 (-1000000 : Int32)) 15 (-1 : Int32)) 16 (0 : Int32)) 17 (-1 : Int32)), l)) rfl (fl_oks_ok ⟨True.intro, (t2_kc0 (by omega)), True.intro⟩) rfl (t2_upr) ?_
  refine fl_Tq.stp (pc' := 90) (lv' := [some (.inr (.inr (.inl (18, 18 + 4 * A)))), some (.inl a), some (.inl b), some (.inl c), some (.inl d)]) (st' := [.inr (.inr (.inl (18, 18 + 4 * A)))]) (m' := (fl_row (c0_putCharge_m (fl_row f (18 + 4 * A) (upd (upd (upd (upd (f (18 + 4 * A)) 0 a) 1 a) 5 c) 6 d)) A (t2_chargeBy_v b a)) (18 + 4 * A) (upd (upd (upd (upd (upd (upd (upd (upd (upd (upd (upd ((c0_putCharge_m (fl_row f (18 + 4 * A) (upd (upd (upd (upd (f (18 + 4 * A)) 0 a) 1 a) 5 c) 6 d)) A (t2_chargeBy_v b a)) (18 + 4 * A)) 8 ((c0_putCharge_m (fl_row f (18 + 4 * A) (upd (upd (upd (upd (f (18 + 4 * A)) 0 a) 1 a) 5 c) 6 d)) A (t2_chargeBy_v b a)) (18 + 4 * A) 2)) 7 (0 : Int32)) 9 (0 : Int32)) 10 (0 : Int32)) 11 (0 : Int32)) 12 (0 : Int32)) 13 (0 : Int32)) 14 (-1000000 : Int32)) 15 (-1 : Int32)) 16 (0 : Int32)) 17 (-1 : Int32)), l)) rfl rfl (fl_bo rfl) rfl ?_
  refine fl_Tq.cI (c := (0 : Int32)) rfl (by decide +kernel) (fl_oks_ok ⟨(t2_kc0 (by omega)), True.intro⟩) ?_
  refine fl_Tq.pfV (k := 18) (m' := (fl_row (c0_putCharge_m (fl_row f (18 + 4 * A) (upd (upd (upd (upd (f (18 + 4 * A)) 0 a) 1 a) 5 c) 6 d)) A (t2_chargeBy_v b a)) (18 + 4 * A) (upd (upd (upd (upd (upd (upd (upd (upd (upd (upd (upd (upd ((c0_putCharge_m (fl_row f (18 + 4 * A) (upd (upd (upd (upd (f (18 + 4 * A)) 0 a) 1 a) 5 c) 6 d)) A (t2_chargeBy_v b a)) (18 + 4 * A)) 8 ((c0_putCharge_m (fl_row f (18 + 4 * A) (upd (upd (upd (upd (f (18 + 4 * A)) 0 a) 1 a) 5 c) 6 d)) A (t2_chargeBy_v b a)) (18 + 4 * A) 2)) 7 (0 : Int32)) 9 (0 : Int32)) 10 (0 : Int32)) 11 (0 : Int32)) 12 (0 : Int32)) 13 (0 : Int32)) 14 (-1000000 : Int32)) 15 (-1 : Int32)) 16 (0 : Int32)) 17 (-1 : Int32)) 18 (0 : Int32)), l)) rfl (fl_oks_ok ⟨True.intro, (t2_kc0 (by omega)), True.intro⟩) rfl (t2_upr) ?_
  refine fl_Tq.stp (pc' := 95) (lv' := [some (.inr (.inr (.inl (18, 18 + 4 * A)))), some (.inl a), some (.inl b), some (.inl c), some (.inl d)]) (st' := [.inr (.inr (.inl (18, 18 + 4 * A)))]) (m' := (fl_row (c0_putCharge_m (fl_row f (18 + 4 * A) (upd (upd (upd (upd (f (18 + 4 * A)) 0 a) 1 a) 5 c) 6 d)) A (t2_chargeBy_v b a)) (18 + 4 * A) (upd (upd (upd (upd (upd (upd (upd (upd (upd (upd (upd (upd ((c0_putCharge_m (fl_row f (18 + 4 * A) (upd (upd (upd (upd (f (18 + 4 * A)) 0 a) 1 a) 5 c) 6 d)) A (t2_chargeBy_v b a)) (18 + 4 * A)) 8 ((c0_putCharge_m (fl_row f (18 + 4 * A) (upd (upd (upd (upd (f (18 + 4 * A)) 0 a) 1 a) 5 c) 6 d)) A (t2_chargeBy_v b a)) (18 + 4 * A) 2)) 7 (0 : Int32)) 9 (0 : Int32)) 10 (0 : Int32)) 11 (0 : Int32)) 12 (0 : Int32)) 13 (0 : Int32)) 14 (-1000000 : Int32)) 15 (-1 : Int32)) 16 (0 : Int32)) 17 (-1 : Int32)) 18 (0 : Int32)), l)) rfl rfl (fl_bo rfl) rfl ?_
  refine fl_Tq.gfR (d := 1) (p' := 19 + 4 * A) rfl (fl_oks_ok ⟨(t2_kc0 (by omega)), True.intro⟩) rfl (by omega) ?_
  refine fl_Tq.stp (pc' := 99) (lv' := [some (.inr (.inr (.inl (18, 18 + 4 * A)))), some (.inl a), some (.inl b), some (.inl c), some (.inl d)]) (st' := [.inr (.inr (.inl (18, 18 + 4 * A))), .inr (.inr (.inl (19, 19 + 4 * A)))]) (m' := (fl_row (c0_putCharge_m (fl_row f (18 + 4 * A) (upd (upd (upd (upd (f (18 + 4 * A)) 0 a) 1 a) 5 c) 6 d)) A (t2_chargeBy_v b a)) (18 + 4 * A) (upd (upd (upd (upd (upd (upd (upd (upd (upd (upd (upd (upd ((c0_putCharge_m (fl_row f (18 + 4 * A) (upd (upd (upd (upd (f (18 + 4 * A)) 0 a) 1 a) 5 c) 6 d)) A (t2_chargeBy_v b a)) (18 + 4 * A)) 8 ((c0_putCharge_m (fl_row f (18 + 4 * A) (upd (upd (upd (upd (f (18 + 4 * A)) 0 a) 1 a) 5 c) 6 d)) A (t2_chargeBy_v b a)) (18 + 4 * A) 2)) 7 (0 : Int32)) 9 (0 : Int32)) 10 (0 : Int32)) 11 (0 : Int32)) 12 (0 : Int32)) 13 (0 : Int32)) 14 (-1000000 : Int32)) 15 (-1 : Int32)) 16 (0 : Int32)) 17 (-1 : Int32)) 18 (0 : Int32)), l)) rfl rfl (fl_oks_ok ⟨(t2_kt0 (by omega)), True.intro⟩) rfl ?_
  refine fl_Tq.gfV (k := 3) (v := (c0_putCharge_m (fl_row f (18 + 4 * A) (upd (upd (upd (upd (f (18 + 4 * A)) 0 a) 1 a) 5 c) 6 d)) A (t2_chargeBy_v b a)) (18 + 4 * A) 3) rfl (fl_oks_ok ⟨(t2_kc0 (by omega)), (t2_kt0 (by omega)), True.intro⟩) rfl (by simp only [fl_row_self, upd_ne (by decide : 3 ≠ 18), upd_ne (by decide : 3 ≠ 17), upd_ne (by decide : 3 ≠ 16), upd_ne (by decide : 3 ≠ 15), upd_ne (by decide : 3 ≠ 14), upd_ne (by decide : 3 ≠ 13), upd_ne (by decide : 3 ≠ 12), upd_ne (by decide : 3 ≠ 11), upd_ne (by decide : 3 ≠ 10), upd_ne (by decide : 3 ≠ 9), upd_ne (by decide : 3 ≠ 7), upd_ne (by decide : 3 ≠ 8)]) ?_
  exact k
theorem x_tub_A {L : Nat} {xs : Nat → Int32} {f : t2_F} {l : t2_L} {Q : Option fl_V → fl_M → Prop} {a : Int32} {A : Nat} (hA1 : A < 16) (k : fl_Tq (pw_P L xs) 86 5 [some (.inr (.inr (.inl (19, 19 + 4 * A)))), some (.inl a)] [.inl (0 : Int32), .inr (.inr (.inl (21, 21 + 4 * A)))] (f, l) Q) : fl_Tq (pw_P L xs) 86 0 [some (.inr (.inr (.inl (19, 19 + 4 * A)))), some (.inl a)] [] (f, l) Q := by
  refine fl_Tq.stp (pc' := 1) (lv' := [some (.inr (.inr (.inl (19, 19 + 4 * A)))), some (.inl a)]) (st' := [.inr (.inr (.inl (19, 19 + 4 * A)))]) (m' := (f, l)) rfl rfl (fl_bo rfl) rfl ?_
  refine fl_Tq.gfR (d := 2) (p' := 21 + 4 * A) rfl (fl_oks_ok ⟨(t2_kt0 (by omega)), True.intro⟩) rfl (by omega) ?_
  refine fl_Tq.cI (c := (0 : Int32)) rfl (by decide +kernel) (fl_oks_ok ⟨(t2_ky0 (by omega)), True.intro⟩) ?_
  exact k
theorem x_tub_B {L : Nat} {xs : Nat → Int32} {f : t2_F} {l : t2_L} {Q : Option fl_V → fl_M → Prop} {a : Int32} {A : Nat} (hA1 : A < 16) (k : Q none (fl_row (fl_row f (20 + 4 * A) (upd (f (20 + 4 * A)) 0 a)) (19 + 4 * A) (upd (f (19 + 4 * A)) 2 (1 : Int32)), l)) : fl_Tq (pw_P L xs) 86 8 [some (.inr (.inr (.inl (19, 19 + 4 * A)))), some (.inl a)] [] (f, l) Q := by
  refine fl_Tq.stp (pc' := 9) (lv' := [some (.inr (.inr (.inl (19, 19 + 4 * A)))), some (.inl a)]) (st' := [.inr (.inr (.inl (19, 19 + 4 * A)))]) (m' := (f, l)) rfl rfl (fl_bo rfl) rfl ?_
  refine fl_Tq.gfR (d := 1) (p' := 20 + 4 * A) rfl (fl_oks_ok ⟨(t2_kt0 (by omega)), True.intro⟩) rfl (by omega) ?_
  refine fl_Tq.cI (c := (0 : Int32)) rfl (by decide +kernel) (fl_oks_ok ⟨(t2_ka0 (by omega)), True.intro⟩) ?_
  refine fl_Tq.stp (pc' := 14) (lv' := [some (.inr (.inr (.inl (19, 19 + 4 * A)))), some (.inl a)]) (st' := [.inl a, .inl (0 : Int32), .inr (.inr (.inl (20, 20 + 4 * A)))]) (m' := (f, l)) rfl rfl (fl_oks_ok ⟨True.intro, (t2_ka0 (by omega)), True.intro⟩) rfl ?_
  refine fl_Tq.svV (p := 20 + 4 * A) (τ := 20) (n := 32) (z := (0, 0, 0)) (k := 0) (m' := (fl_row f (20 + 4 * A) (upd (f (20 + 4 * A)) 0 a), l)) rfl (fl_oks_ok ⟨True.intro, True.intro, (t2_ka0 (by omega)), True.intro⟩) rfl (by decide +kernel) (by decide) (t2_upn rfl) ?_
  refine fl_Tq.stp (pc' := 16) (lv' := [some (.inr (.inr (.inl (19, 19 + 4 * A)))), some (.inl a)]) (st' := [.inr (.inr (.inl (19, 19 + 4 * A)))]) (m' := (fl_row f (20 + 4 * A) (upd (f (20 + 4 * A)) 0 a), l)) rfl rfl (fl_bo rfl) rfl ?_
  refine fl_Tq.cI (c := (1 : Int32)) rfl (by decide +kernel) (fl_oks_ok ⟨(t2_kt0 (by omega)), True.intro⟩) ?_
  refine fl_Tq.pfV (k := 2) (m' := (fl_row (fl_row f (20 + 4 * A) (upd (f (20 + 4 * A)) 0 a)) (19 + 4 * A) (upd (f (19 + 4 * A)) 2 (1 : Int32)), l)) rfl (fl_oks_ok ⟨True.intro, (t2_kt0 (by omega)), True.intro⟩) rfl (t2_upn (by rw [fl_row_ne (show 19 + 4 * A ≠ 20 + 4 * A by omega)])) ?_
  exact fl_Tq.ret rfl rfl rfl k
theorem y_mark_B {L : Nat} {xs : Nat → Int32} {f : t2_F} {l : t2_L} {Q : Option fl_V → fl_M → Prop} {a : Int32} {A : Nat} (hA : a.toInt = (A : Int)) (hA1 : A < 3) (k : fl_Tq (pw_P L xs) 257 62 [some (.inr (.inr (.inl (76, 277)))), some (.inl a), some (.inl ((339 : Int32) + ((35 : Int32) * a))), some (.inl (0 : Int32))] [] (fl_row f 280 (upd (upd (upd (f 280) (339 + 35 * A) (1 : Int32)) ((339 + 35 * A) + 1) (f 280 7)) ((339 + 35 * A) + 2) (f 280 2)), l) Q) : fl_Tq (pw_P L xs) 257 15 [some (.inr (.inr (.inl (76, 277)))), some (.inl a), none, none] [] (f, l) Q := by
  refine fl_Tq.cS (c := (339 : Int32)) rfl (by decide +kernel) (fl_bo rfl) ?_
  refine fl_Tq.cB (c := (35 : Int32)) rfl (by decide +kernel) (fl_bo rfl) ?_
  refine fl_Tq.stp (pc' := 21) (lv' := [some (.inr (.inr (.inl (76, 277)))), some (.inl a), none, none]) (st' := [.inl a, .inl (35 : Int32), .inl (339 : Int32)]) (m' := (f, l)) rfl rfl (fl_bo rfl) rfl ?_
  refine fl_Tq.stp (pc' := 22) (lv' := [some (.inr (.inr (.inl (76, 277)))), some (.inl a), none, none]) (st' := [.inl ((35 : Int32) * a), .inl (339 : Int32)]) (m' := (f, l)) rfl rfl (fl_bo rfl) rfl ?_
  refine fl_Tq.stp (pc' := 23) (lv' := [some (.inr (.inr (.inl (76, 277)))), some (.inl a), none, none]) (st' := [.inl ((339 : Int32) + ((35 : Int32) * a))]) (m' := (f, l)) rfl rfl (fl_bo rfl) rfl ?_
  refine fl_Tq.stp (pc' := 24) (lv' := [some (.inr (.inr (.inl (76, 277)))), some (.inl a), some (.inl ((339 : Int32) + ((35 : Int32) * a))), none]) (st' := []) (m' := (f, l)) rfl rfl (fl_bo rfl) rfl ?_
  refine fl_Tq.stp (pc' := 25) (lv' := [some (.inr (.inr (.inl (76, 277)))), some (.inl a), some (.inl ((339 : Int32) + ((35 : Int32) * a))), none]) (st' := [.inr (.inr (.inl (76, 277)))]) (m' := (f, l)) rfl rfl (fl_bo rfl) rfl ?_
  refine fl_Tq.stp (pc' := 28) (lv' := [some (.inr (.inr (.inl (76, 277)))), some (.inl a), some (.inl ((339 : Int32) + ((35 : Int32) * a))), none]) (st' := [.inr (.inr (.inl (79, 280)))]) (m' := (f, l)) rfl rfl (fl_bo rfl) rfl ?_
  refine fl_Tq.stp (pc' := 29) (lv' := [some (.inr (.inr (.inl (76, 277)))), some (.inl a), some (.inl ((339 : Int32) + ((35 : Int32) * a))), none]) (st' := [.inl ((339 : Int32) + ((35 : Int32) * a)), .inr (.inr (.inl (79, 280)))]) (m' := (f, l)) rfl rfl (fl_bo rfl) rfl ?_
  refine fl_Tq.cI (c := (1 : Int32)) rfl (by decide +kernel) (fl_bo rfl) ?_
  refine fl_Tq.svV (p := 280) (τ := 79) (n := 29780) (z := (0, 0, 0)) (k := 339 + 35 * A) (m' := (fl_row f 280 (upd (f 280) (339 + 35 * A) (1 : Int32)), l)) rfl (fl_bo rfl) rfl (t2_mi hA hA1) (by omega) (t2_upn rfl) ?_
  refine fl_Tq.stp (pc' := 32) (lv' := [some (.inr (.inr (.inl (76, 277)))), some (.inl a), some (.inl ((339 : Int32) + ((35 : Int32) * a))), none]) (st' := [.inr (.inr (.inl (76, 277)))]) (m' := (fl_row f 280 (upd (f 280) (339 + 35 * A) (1 : Int32)), l)) rfl rfl (fl_bo rfl) rfl ?_
  refine fl_Tq.stp (pc' := 35) (lv' := [some (.inr (.inr (.inl (76, 277)))), some (.inl a), some (.inl ((339 : Int32) + ((35 : Int32) * a))), none]) (st' := [.inr (.inr (.inl (79, 280)))]) (m' := (fl_row f 280 (upd (f 280) (339 + 35 * A) (1 : Int32)), l)) rfl rfl (fl_bo rfl) rfl ?_
  refine fl_Tq.stp (pc' := 36) (lv' := [some (.inr (.inr (.inl (76, 277)))), some (.inl a), some (.inl ((339 : Int32) + ((35 : Int32) * a))), none]) (st' := [.inl ((339 : Int32) + ((35 : Int32) * a)), .inr (.inr (.inl (79, 280)))]) (m' := (fl_row f 280 (upd (f 280) (339 + 35 * A) (1 : Int32)), l)) rfl rfl (fl_bo rfl) rfl ?_
  refine fl_Tq.cI (c := (1 : Int32)) rfl (by decide +kernel) (fl_bo rfl) ?_
  refine fl_Tq.stp (pc' := 38) (lv' := [some (.inr (.inr (.inl (76, 277)))), some (.inl a), some (.inl ((339 : Int32) + ((35 : Int32) * a))), none]) (st' := [.inl (((339 : Int32) + ((35 : Int32) * a)) + (1 : Int32)), .inr (.inr (.inl (79, 280)))]) (m' := (fl_row f 280 (upd (f 280) (339 + 35 * A) (1 : Int32)), l)) rfl rfl (fl_bo rfl) rfl ?_
  refine fl_Tq.stp (pc' := 39) (lv' := [some (.inr (.inr (.inl (76, 277)))), some (.inl a), some (.inl ((339 : Int32) + ((35 : Int32) * a))), none]) (st' := [.inr (.inr (.inl (76, 277))), .inl (((339 : Int32) + ((35 : Int32) * a)) + (1 : Int32)), .inr (.inr (.inl (79, 280)))]) (m' := (fl_row f 280 (upd (f 280) (339 + 35 * A) (1 : Int32)), l)) rfl rfl (fl_bo rfl) rfl ?_
  refine fl_Tq.stp (pc' := 42) (lv' := [some (.inr (.inr (.inl (76, 277)))), some (.inl a), some (.inl ((339 : Int32) + ((35 : Int32) * a))), none]) (st' := [.inr (.inr (.inl (79, 280))), .inl (((339 : Int32) + ((35 : Int32) * a)) + (1 : Int32)), .inr (.inr (.inl (79, 280)))]) (m' := (fl_row f 280 (upd (f 280) (339 + 35 * A) (1 : Int32)), l)) rfl rfl (fl_bo rfl) rfl ?_
  refine fl_Tq.cB (c := (7 : Int32)) rfl (by decide +kernel) (fl_bo rfl) ?_
  refine fl_Tq.ldV (p := 280) (τ := 79) (n := 29780) (z := (0, 0, 0)) (k := 7) (v := f 280 7) rfl (fl_bo rfl) rfl (by decide +kernel) (by decide) (by simp only [fl_row_self, upd_ne (by omega : 7 ≠ 339 + 35 * A)]) ?_
  refine fl_Tq.svV (p := 280) (τ := 79) (n := 29780) (z := (0, 0, 0)) (k := (339 + 35 * A) + 1) (m' := (fl_row f 280 (upd (upd (f 280) (339 + 35 * A) (1 : Int32)) ((339 + 35 * A) + 1) (f 280 7)), l)) rfl (fl_bo rfl) rfl (t2_ia (t2_mi hA hA1) (by decide +kernel) (by omega)) (by omega) (t2_upr) ?_
  refine fl_Tq.stp (pc' := 47) (lv' := [some (.inr (.inr (.inl (76, 277)))), some (.inl a), some (.inl ((339 : Int32) + ((35 : Int32) * a))), none]) (st' := [.inr (.inr (.inl (76, 277)))]) (m' := (fl_row f 280 (upd (upd (f 280) (339 + 35 * A) (1 : Int32)) ((339 + 35 * A) + 1) (f 280 7)), l)) rfl rfl (fl_bo rfl) rfl ?_
  refine fl_Tq.stp (pc' := 50) (lv' := [some (.inr (.inr (.inl (76, 277)))), some (.inl a), some (.inl ((339 : Int32) + ((35 : Int32) * a))), none]) (st' := [.inr (.inr (.inl (79, 280)))]) (m' := (fl_row f 280 (upd (upd (f 280) (339 + 35 * A) (1 : Int32)) ((339 + 35 * A) + 1) (f 280 7)), l)) rfl rfl (fl_bo rfl) rfl ?_
  refine fl_Tq.stp (pc' := 51) (lv' := [some (.inr (.inr (.inl (76, 277)))), some (.inl a), some (.inl ((339 : Int32) + ((35 : Int32) * a))), none]) (st' := [.inl ((339 : Int32) + ((35 : Int32) * a)), .inr (.inr (.inl (79, 280)))]) (m' := (fl_row f 280 (upd (upd (f 280) (339 + 35 * A) (1 : Int32)) ((339 + 35 * A) + 1) (f 280 7)), l)) rfl rfl (fl_bo rfl) rfl ?_
  refine fl_Tq.cI (c := (2 : Int32)) rfl (by decide +kernel) (fl_bo rfl) ?_
  refine fl_Tq.stp (pc' := 53) (lv' := [some (.inr (.inr (.inl (76, 277)))), some (.inl a), some (.inl ((339 : Int32) + ((35 : Int32) * a))), none]) (st' := [.inl (((339 : Int32) + ((35 : Int32) * a)) + (2 : Int32)), .inr (.inr (.inl (79, 280)))]) (m' := (fl_row f 280 (upd (upd (f 280) (339 + 35 * A) (1 : Int32)) ((339 + 35 * A) + 1) (f 280 7)), l)) rfl rfl (fl_bo rfl) rfl ?_
  refine fl_Tq.stp (pc' := 54) (lv' := [some (.inr (.inr (.inl (76, 277)))), some (.inl a), some (.inl ((339 : Int32) + ((35 : Int32) * a))), none]) (st' := [.inr (.inr (.inl (76, 277))), .inl (((339 : Int32) + ((35 : Int32) * a)) + (2 : Int32)), .inr (.inr (.inl (79, 280)))]) (m' := (fl_row f 280 (upd (upd (f 280) (339 + 35 * A) (1 : Int32)) ((339 + 35 * A) + 1) (f 280 7)), l)) rfl rfl (fl_bo rfl) rfl ?_
  refine fl_Tq.stp (pc' := 57) (lv' := [some (.inr (.inr (.inl (76, 277)))), some (.inl a), some (.inl ((339 : Int32) + ((35 : Int32) * a))), none]) (st' := [.inr (.inr (.inl (79, 280))), .inl (((339 : Int32) + ((35 : Int32) * a)) + (2 : Int32)), .inr (.inr (.inl (79, 280)))]) (m' := (fl_row f 280 (upd (upd (f 280) (339 + 35 * A) (1 : Int32)) ((339 + 35 * A) + 1) (f 280 7)), l)) rfl rfl (fl_bo rfl) rfl ?_
  refine fl_Tq.cI (c := (2 : Int32)) rfl (by decide +kernel) (fl_bo rfl) ?_
  refine fl_Tq.ldV (p := 280) (τ := 79) (n := 29780) (z := (0, 0, 0)) (k := 2) (v := f 280 2) rfl (fl_bo rfl) rfl (by decide +kernel) (by decide) (by simp only [fl_row_self, upd_ne (by omega : 2 ≠ (339 + 35 * A) + 1), upd_ne (by omega : 2 ≠ 339 + 35 * A)]) ?_
  refine fl_Tq.svV (p := 280) (τ := 79) (n := 29780) (z := (0, 0, 0)) (k := (339 + 35 * A) + 2) (m' := (fl_row f 280 (upd (upd (upd (f 280) (339 + 35 * A) (1 : Int32)) ((339 + 35 * A) + 1) (f 280 7)) ((339 + 35 * A) + 2) (f 280 2)), l)) rfl (fl_bo rfl) rfl (t2_ia (t2_mi hA hA1) (by decide +kernel) (by omega)) (by omega) (t2_upr) ?_
  refine fl_Tq.cI (c := (0 : Int32)) rfl (by decide +kernel) (fl_bo rfl) ?_
  refine fl_Tq.stp (pc' := 62) (lv' := [some (.inr (.inr (.inl (76, 277)))), some (.inl a), some (.inl ((339 : Int32) + ((35 : Int32) * a))), some (.inl (0 : Int32))]) (st' := []) (m' := (fl_row f 280 (upd (upd (upd (f 280) (339 + 35 * A) (1 : Int32)) ((339 + 35 * A) + 1) (f 280 7)) ((339 + 35 * A) + 2) (f 280 2)), l)) rfl rfl (fl_bo rfl) rfl ?_
  exact k
theorem y_mark_C {L : Nat} {xs : Nat → Int32} {f : t2_F} {l : t2_L} {Q : Option fl_V → fl_M → Prop} {a z : Int32} {A j : Nat} (hZ : z.toInt = ((339 + 35 * A : Nat) : Int)) (hA1 : A < 3) (hj : j < 16) (hck : t2_ck f j) (hk : (Int32.ofNat j).toInt < (f 280 2).toInt) (k : fl_Tq (pw_P L xs) 257 62 [some (.inr (.inr (.inl (76, 277)))), some (.inl a), some (.inl z), some (.inl ((Int32.ofNat j) + (1 : Int32)))] [] (fl_row f 280 (upd (upd (f 280) (((339 + 35 * A) + 3) + j) (r_partOf_v f (Int32.ofNat j) j)) (((339 + 35 * A) + 19) + j) (f 280 (444 + 61 * j + 5))), l) Q) : fl_Tq (pw_P L xs) 257 62 [some (.inr (.inr (.inl (76, 277)))), some (.inl a), some (.inl z), some (.inl (Int32.ofNat j))] [] (f, l) Q := by
  refine fl_Tq.stp (pc' := 63) (lv' := [some (.inr (.inr (.inl (76, 277)))), some (.inl a), some (.inl z), some (.inl (Int32.ofNat j))]) (st' := [.inl (Int32.ofNat j)]) (m' := (f, l)) rfl rfl (fl_bo rfl) rfl ?_
  refine fl_Tq.stp (pc' := 64) (lv' := [some (.inr (.inr (.inl (76, 277)))), some (.inl a), some (.inl z), some (.inl (Int32.ofNat j))]) (st' := [.inr (.inr (.inl (76, 277))), .inl (Int32.ofNat j)]) (m' := (f, l)) rfl rfl (fl_bo rfl) rfl ?_
  refine fl_Tq.stp (pc' := 67) (lv' := [some (.inr (.inr (.inl (76, 277)))), some (.inl a), some (.inl z), some (.inl (Int32.ofNat j))]) (st' := [.inr (.inr (.inl (79, 280))), .inl (Int32.ofNat j)]) (m' := (f, l)) rfl rfl (fl_bo rfl) rfl ?_
  refine fl_Tq.cI (c := (2 : Int32)) rfl (by decide +kernel) (fl_bo rfl) ?_
  refine fl_Tq.ldV (p := 280) (τ := 79) (n := 29780) (z := (0, 0, 0)) (k := 2) (v := f 280 2) rfl (fl_bo rfl) rfl (by decide +kernel) (by decide) rfl ?_
  refine fl_Tq.jf rfl (fl_bo rfl) (c2_ge_f hk) rfl ?_
  refine fl_Tq.stp (pc' := 73) (lv' := [some (.inr (.inr (.inl (76, 277)))), some (.inl a), some (.inl z), some (.inl (Int32.ofNat j))]) (st' := [.inr (.inr (.inl (76, 277)))]) (m' := (f, l)) rfl rfl (fl_bo rfl) rfl ?_
  refine fl_Tq.stp (pc' := 76) (lv' := [some (.inr (.inr (.inl (76, 277)))), some (.inl a), some (.inl z), some (.inl (Int32.ofNat j))]) (st' := [.inr (.inr (.inl (79, 280)))]) (m' := (f, l)) rfl rfl (fl_bo rfl) rfl ?_
  refine fl_Tq.stp (pc' := 77) (lv' := [some (.inr (.inr (.inl (76, 277)))), some (.inl a), some (.inl z), some (.inl (Int32.ofNat j))]) (st' := [.inl z, .inr (.inr (.inl (79, 280)))]) (m' := (f, l)) rfl rfl (fl_bo rfl) rfl ?_
  refine fl_Tq.cI (c := (3 : Int32)) rfl (by decide +kernel) (fl_bo rfl) ?_
  refine fl_Tq.stp (pc' := 79) (lv' := [some (.inr (.inr (.inl (76, 277)))), some (.inl a), some (.inl z), some (.inl (Int32.ofNat j))]) (st' := [.inl (z + (3 : Int32)), .inr (.inr (.inl (79, 280)))]) (m' := (f, l)) rfl rfl (fl_bo rfl) rfl ?_
  refine fl_Tq.stp (pc' := 80) (lv' := [some (.inr (.inr (.inl (76, 277)))), some (.inl a), some (.inl z), some (.inl (Int32.ofNat j))]) (st' := [.inl (Int32.ofNat j), .inl (z + (3 : Int32)), .inr (.inr (.inl (79, 280)))]) (m' := (f, l)) rfl rfl (fl_bo rfl) rfl ?_
  refine fl_Tq.stp (pc' := 81) (lv' := [some (.inr (.inr (.inl (76, 277)))), some (.inl a), some (.inl z), some (.inl (Int32.ofNat j))]) (st' := [.inl ((z + (3 : Int32)) + (Int32.ofNat j)), .inr (.inr (.inl (79, 280)))]) (m' := (f, l)) rfl rfl (fl_bo rfl) rfl ?_
  refine fl_Tq.stp (pc' := 82) (lv' := [some (.inr (.inr (.inl (76, 277)))), some (.inl a), some (.inl z), some (.inl (Int32.ofNat j))]) (st' := [.inr (.inr (.inl (76, 277))), .inl ((z + (3 : Int32)) + (Int32.ofNat j)), .inr (.inr (.inl (79, 280)))]) (m' := (f, l)) rfl rfl (fl_bo rfl) rfl ?_
  refine fl_Tq.stp (pc' := 83) (lv' := [some (.inr (.inr (.inl (76, 277)))), some (.inl a), some (.inl z), some (.inl (Int32.ofNat j))]) (st' := [.inl (Int32.ofNat j), .inr (.inr (.inl (76, 277))), .inl ((z + (3 : Int32)) + (Int32.ofNat j)), .inr (.inr (.inl (79, 280)))]) (m' := (f, l)) rfl rfl (fl_bo rfl) rfl ?_
  refine fl_Tq.cal rfl rfl (fl_bo rfl) rfl ?_
  refine r_partOf_q (at_ofN (by omega)) (by omega) hck ?_
  show fl_Tq _ 257 86 [some (.inr (.inr (.inl (76, 277)))), some (.inl a), some (.inl z), some (.inl (Int32.ofNat j))] [.inl (r_partOf_v f (Int32.ofNat j) j), .inl ((z + (3 : Int32)) + (Int32.ofNat j)), .inr (.inr (.inl (79, 280)))] (f, l) _
  refine fl_Tq.svV (p := 280) (τ := 79) (n := 29780) (z := (0, 0, 0)) (k := ((339 + 35 * A) + 3) + j) (m' := (fl_row f 280 (upd (f 280) (((339 + 35 * A) + 3) + j) (r_partOf_v f (Int32.ofNat j) j)), l)) rfl (fl_bo rfl) rfl (t2_ia (t2_ia hZ (by decide +kernel) (by omega)) (at_ofN (by omega)) (by omega)) (by omega) (t2_upn rfl) ?_
  refine fl_Tq.stp (pc' := 88) (lv' := [some (.inr (.inr (.inl (76, 277)))), some (.inl a), some (.inl z), some (.inl (Int32.ofNat j))]) (st' := [.inr (.inr (.inl (76, 277)))]) (m' := (fl_row f 280 (upd (f 280) (((339 + 35 * A) + 3) + j) (r_partOf_v f (Int32.ofNat j) j)), l)) rfl rfl (fl_bo rfl) rfl ?_
  refine fl_Tq.stp (pc' := 91) (lv' := [some (.inr (.inr (.inl (76, 277)))), some (.inl a), some (.inl z), some (.inl (Int32.ofNat j))]) (st' := [.inr (.inr (.inl (79, 280)))]) (m' := (fl_row f 280 (upd (f 280) (((339 + 35 * A) + 3) + j) (r_partOf_v f (Int32.ofNat j) j)), l)) rfl rfl (fl_bo rfl) rfl ?_
  refine fl_Tq.stp (pc' := 92) (lv' := [some (.inr (.inr (.inl (76, 277)))), some (.inl a), some (.inl z), some (.inl (Int32.ofNat j))]) (st' := [.inl z, .inr (.inr (.inl (79, 280)))]) (m' := (fl_row f 280 (upd (f 280) (((339 + 35 * A) + 3) + j) (r_partOf_v f (Int32.ofNat j) j)), l)) rfl rfl (fl_bo rfl) rfl ?_
  refine fl_Tq.cB (c := (19 : Int32)) rfl (by decide +kernel) (fl_bo rfl) ?_
  refine fl_Tq.stp (pc' := 95) (lv' := [some (.inr (.inr (.inl (76, 277)))), some (.inl a), some (.inl z), some (.inl (Int32.ofNat j))]) (st' := [.inl (z + (19 : Int32)), .inr (.inr (.inl (79, 280)))]) (m' := (fl_row f 280 (upd (f 280) (((339 + 35 * A) + 3) + j) (r_partOf_v f (Int32.ofNat j) j)), l)) rfl rfl (fl_bo rfl) rfl ?_
  refine fl_Tq.stp (pc' := 96) (lv' := [some (.inr (.inr (.inl (76, 277)))), some (.inl a), some (.inl z), some (.inl (Int32.ofNat j))]) (st' := [.inl (Int32.ofNat j), .inl (z + (19 : Int32)), .inr (.inr (.inl (79, 280)))]) (m' := (fl_row f 280 (upd (f 280) (((339 + 35 * A) + 3) + j) (r_partOf_v f (Int32.ofNat j) j)), l)) rfl rfl (fl_bo rfl) rfl ?_
  refine fl_Tq.stp (pc' := 97) (lv' := [some (.inr (.inr (.inl (76, 277)))), some (.inl a), some (.inl z), some (.inl (Int32.ofNat j))]) (st' := [.inl ((z + (19 : Int32)) + (Int32.ofNat j)), .inr (.inr (.inl (79, 280)))]) (m' := (fl_row f 280 (upd (f 280) (((339 + 35 * A) + 3) + j) (r_partOf_v f (Int32.ofNat j) j)), l)) rfl rfl (fl_bo rfl) rfl ?_
  refine fl_Tq.stp (pc' := 98) (lv' := [some (.inr (.inr (.inl (76, 277)))), some (.inl a), some (.inl z), some (.inl (Int32.ofNat j))]) (st' := [.inr (.inr (.inl (76, 277))), .inl ((z + (19 : Int32)) + (Int32.ofNat j)), .inr (.inr (.inl (79, 280)))]) (m' := (fl_row f 280 (upd (f 280) (((339 + 35 * A) + 3) + j) (r_partOf_v f (Int32.ofNat j) j)), l)) rfl rfl (fl_bo rfl) rfl ?_
  refine fl_Tq.stp (pc' := 99) (lv' := [some (.inr (.inr (.inl (76, 277)))), some (.inl a), some (.inl z), some (.inl (Int32.ofNat j))]) (st' := [.inl (Int32.ofNat j), .inr (.inr (.inl (76, 277))), .inl ((z + (19 : Int32)) + (Int32.ofNat j)), .inr (.inr (.inl (79, 280)))]) (m' := (fl_row f 280 (upd (f 280) (((339 + 35 * A) + 3) + j) (r_partOf_v f (Int32.ofNat j) j)), l)) rfl rfl (fl_bo rfl) rfl ?_
  refine fl_Tq.cI (c := (5 : Int32)) rfl (by decide +kernel) (fl_bo rfl) ?_
  refine fl_Tq.cal rfl rfl (fl_bo rfl) rfl ?_
  refine t2_get (C := j) (W := 5) (v := f 280 (444 + 61 * j + 5)) (at_ofN (by omega)) (by decide +kernel) (by omega) (by decide) (by simp only [fl_row_self, upd_ne (by omega : 444 + 61 * j + 5 ≠ ((339 + 35 * A) + 3) + j)]) ?_
  show fl_Tq _ 257 103 [some (.inr (.inr (.inl (76, 277)))), some (.inl a), some (.inl z), some (.inl (Int32.ofNat j))] [.inl (f 280 (444 + 61 * j + 5)), .inl ((z + (19 : Int32)) + (Int32.ofNat j)), .inr (.inr (.inl (79, 280)))] (fl_row f 280 (upd (f 280) (((339 + 35 * A) + 3) + j) (r_partOf_v f (Int32.ofNat j) j)), l) _
  refine fl_Tq.svV (p := 280) (τ := 79) (n := 29780) (z := (0, 0, 0)) (k := ((339 + 35 * A) + 19) + j) (m' := (fl_row f 280 (upd (upd (f 280) (((339 + 35 * A) + 3) + j) (r_partOf_v f (Int32.ofNat j) j)) (((339 + 35 * A) + 19) + j) (f 280 (444 + 61 * j + 5))), l)) rfl (fl_bo rfl) rfl (t2_ia (t2_ia hZ (by decide +kernel) (by omega)) (at_ofN (by omega)) (by omega)) (by omega) (t2_upr) ?_
  refine fl_Tq.stp (pc' := 107) (lv' := [some (.inr (.inr (.inl (76, 277)))), some (.inl a), some (.inl z), some (.inl ((Int32.ofNat j) + (1 : Int32)))]) (st' := []) (m' := (fl_row f 280 (upd (upd (f 280) (((339 + 35 * A) + 3) + j) (r_partOf_v f (Int32.ofNat j) j)) (((339 + 35 * A) + 19) + j) (f 280 (444 + 61 * j + 5))), l)) rfl rfl (fl_bo rfl) rfl ?_
  refine fl_Tq.stp (pc' := 62) (lv' := [some (.inr (.inr (.inl (76, 277)))), some (.inl a), some (.inl z), some (.inl ((Int32.ofNat j) + (1 : Int32)))]) (st' := []) (m' := (fl_row f 280 (upd (upd (f 280) (((339 + 35 * A) + 3) + j) (r_partOf_v f (Int32.ofNat j) j)) (((339 + 35 * A) + 19) + j) (f 280 (444 + 61 * j + 5))), l)) rfl rfl (fl_bo rfl) rfl ?_
  exact k
theorem y_mark_D {L : Nat} {xs : Nat → Int32} {f : t2_F} {l : t2_L} {Q : Option fl_V → fl_M → Prop} {a z : Int32} {j : Nat} (hk : ¬ ((Int32.ofNat j).toInt < (f 280 2).toInt)) (k : Q (some (.inl (1 : Int32))) (f, l)) : fl_Tq (pw_P L xs) 257 62 [some (.inr (.inr (.inl (76, 277)))), some (.inl a), some (.inl z), some (.inl (Int32.ofNat j))] [] (f, l) Q := by
  refine fl_Tq.stp (pc' := 63) (lv' := [some (.inr (.inr (.inl (76, 277)))), some (.inl a), some (.inl z), some (.inl (Int32.ofNat j))]) (st' := [.inl (Int32.ofNat j)]) (m' := (f, l)) rfl rfl (fl_bo rfl) rfl ?_
  refine fl_Tq.stp (pc' := 64) (lv' := [some (.inr (.inr (.inl (76, 277)))), some (.inl a), some (.inl z), some (.inl (Int32.ofNat j))]) (st' := [.inr (.inr (.inl (76, 277))), .inl (Int32.ofNat j)]) (m' := (f, l)) rfl rfl (fl_bo rfl) rfl ?_
  refine fl_Tq.stp (pc' := 67) (lv' := [some (.inr (.inr (.inl (76, 277)))), some (.inl a), some (.inl z), some (.inl (Int32.ofNat j))]) (st' := [.inr (.inr (.inl (79, 280))), .inl (Int32.ofNat j)]) (m' := (f, l)) rfl rfl (fl_bo rfl) rfl ?_
  refine fl_Tq.cI (c := (2 : Int32)) rfl (by decide +kernel) (fl_bo rfl) ?_
  refine fl_Tq.ldV (p := 280) (τ := 79) (n := 29780) (z := (0, 0, 0)) (k := 2) (v := f 280 2) rfl (fl_bo rfl) rfl (by decide +kernel) (by decide) rfl ?_
  refine fl_Tq.jt rfl (fl_bo rfl) (c2_ge_t hk) rfl ?_
  refine fl_Tq.cI (c := (1 : Int32)) rfl (by decide +kernel) (fl_bo rfl) ?_
  exact fl_Tq.ret rfl rfl rfl k
theorem y_clear_B {L : Nat} {xs : Nat → Int32} {f : t2_F} {l : t2_L} {Q : Option fl_V → fl_M → Prop} {a b c : Int32} {A : Nat} (hA : a.toInt = (A : Int)) (hA1 : A < 29780) (k : fl_Tq (pw_P L xs) 262 15 [some (.inr (.inr (.inl (76, 277)))), some (.inl a), some (.inl b), some (.inl c), some (.inl (f 280 A)), some (.inl b)] [] (f, l) Q) : fl_Tq (pw_P L xs) 262 4 [some (.inr (.inr (.inl (76, 277)))), some (.inl a), some (.inl b), some (.inl c), none, none] [] (f, l) Q := by
  refine fl_Tq.stp (pc' := 5) (lv' := [some (.inr (.inr (.inl (76, 277)))), some (.inl a), some (.inl b), some (.inl c), none, none]) (st' := [.inr (.inr (.inl (76, 277)))]) (m' := (f, l)) rfl rfl (fl_bo rfl) rfl ?_
  refine fl_Tq.stp (pc' := 8) (lv' := [some (.inr (.inr (.inl (76, 277)))), some (.inl a), some (.inl b), some (.inl c), none, none]) (st' := [.inr (.inr (.inl (79, 280)))]) (m' := (f, l)) rfl rfl (fl_bo rfl) rfl ?_
  refine fl_Tq.stp (pc' := 9) (lv' := [some (.inr (.inr (.inl (76, 277)))), some (.inl a), some (.inl b), some (.inl c), none, none]) (st' := [.inl a, .inr (.inr (.inl (79, 280)))]) (m' := (f, l)) rfl rfl (fl_bo rfl) rfl ?_
  refine fl_Tq.ldV (p := 280) (τ := 79) (n := 29780) (z := (0, 0, 0)) (k := A) (v := f 280 A) rfl (fl_bo rfl) rfl hA hA1 rfl ?_
  refine fl_Tq.stp (pc' := 12) (lv' := [some (.inr (.inr (.inl (76, 277)))), some (.inl a), some (.inl b), some (.inl c), some (.inl (f 280 A)), none]) (st' := []) (m' := (f, l)) rfl rfl (fl_bo rfl) rfl ?_
  refine fl_Tq.stp (pc' := 13) (lv' := [some (.inr (.inr (.inl (76, 277)))), some (.inl a), some (.inl b), some (.inl c), some (.inl (f 280 A)), none]) (st' := [.inl b]) (m' := (f, l)) rfl rfl (fl_bo rfl) rfl ?_
  refine fl_Tq.stp (pc' := 15) (lv' := [some (.inr (.inr (.inl (76, 277)))), some (.inl a), some (.inl b), some (.inl c), some (.inl (f 280 A)), some (.inl b)]) (st' := []) (m' := (f, l)) rfl rfl (fl_bo rfl) rfl ?_
  exact k
theorem y_clear_C {L : Nat} {xs : Nat → Int32} {f : t2_F} {l : t2_L} {Q : Option fl_V → fl_M → Prop} {a b c o z : Int32} {Z : Nat} (hZ : z.toInt = (Z : Int)) (hZ1 : Z < 29780) (hk : z.toInt < c.toInt) (k : fl_Tq (pw_P L xs) 262 15 [some (.inr (.inr (.inl (76, 277)))), some (.inl a), some (.inl b), some (.inl c), some (.inl o), some (.inl (z + (1 : Int32)))] [] (fl_row f 280 (upd (f 280) Z (0 : Int32)), l) Q) : fl_Tq (pw_P L xs) 262 15 [some (.inr (.inr (.inl (76, 277)))), some (.inl a), some (.inl b), some (.inl c), some (.inl o), some (.inl z)] [] (f, l) Q := by
  refine fl_Tq.stp (pc' := 17) (lv' := [some (.inr (.inr (.inl (76, 277)))), some (.inl a), some (.inl b), some (.inl c), some (.inl o), some (.inl z)]) (st' := [.inl z]) (m' := (f, l)) rfl rfl (fl_bo rfl) rfl ?_
  refine fl_Tq.stp (pc' := 18) (lv' := [some (.inr (.inr (.inl (76, 277)))), some (.inl a), some (.inl b), some (.inl c), some (.inl o), some (.inl z)]) (st' := [.inl c, .inl z]) (m' := (f, l)) rfl rfl (fl_bo rfl) rfl ?_
  refine fl_Tq.jf rfl (fl_bo rfl) (c2_ge_f hk) rfl ?_
  refine fl_Tq.stp (pc' := 22) (lv' := [some (.inr (.inr (.inl (76, 277)))), some (.inl a), some (.inl b), some (.inl c), some (.inl o), some (.inl z)]) (st' := [.inr (.inr (.inl (76, 277)))]) (m' := (f, l)) rfl rfl (fl_bo rfl) rfl ?_
  refine fl_Tq.stp (pc' := 25) (lv' := [some (.inr (.inr (.inl (76, 277)))), some (.inl a), some (.inl b), some (.inl c), some (.inl o), some (.inl z)]) (st' := [.inr (.inr (.inl (79, 280)))]) (m' := (f, l)) rfl rfl (fl_bo rfl) rfl ?_
  refine fl_Tq.stp (pc' := 27) (lv' := [some (.inr (.inr (.inl (76, 277)))), some (.inl a), some (.inl b), some (.inl c), some (.inl o), some (.inl z)]) (st' := [.inl z, .inr (.inr (.inl (79, 280)))]) (m' := (f, l)) rfl rfl (fl_bo rfl) rfl ?_
  refine fl_Tq.cI (c := (0 : Int32)) rfl (by decide +kernel) (fl_bo rfl) ?_
  refine fl_Tq.svV (p := 280) (τ := 79) (n := 29780) (z := (0, 0, 0)) (k := Z) (m' := (fl_row f 280 (upd (f 280) Z (0 : Int32)), l)) rfl (fl_bo rfl) rfl hZ hZ1 (t2_upn rfl) ?_
  refine fl_Tq.stp (pc' := 32) (lv' := [some (.inr (.inr (.inl (76, 277)))), some (.inl a), some (.inl b), some (.inl c), some (.inl o), some (.inl (z + (1 : Int32)))]) (st' := []) (m' := (fl_row f 280 (upd (f 280) Z (0 : Int32)), l)) rfl rfl (fl_bo rfl) rfl ?_
  refine fl_Tq.stp (pc' := 15) (lv' := [some (.inr (.inr (.inl (76, 277)))), some (.inl a), some (.inl b), some (.inl c), some (.inl o), some (.inl (z + (1 : Int32)))]) (st' := []) (m' := (fl_row f 280 (upd (f 280) Z (0 : Int32)), l)) rfl rfl (fl_bo rfl) rfl ?_
  exact k
theorem y_clear_D {L : Nat} {xs : Nat → Int32} {f : t2_F} {l : t2_L} {Q : Option fl_V → fl_M → Prop} {a b c o z : Int32} {A : Nat} (hA : a.toInt = (A : Int)) (hA1 : A < 29780) (hk : ¬ (z.toInt < c.toInt)) (k : Q (some (.inl o)) (fl_row f 280 (upd (f 280) A (0 : Int32)), l)) : fl_Tq (pw_P L xs) 262 15 [some (.inr (.inr (.inl (76, 277)))), some (.inl a), some (.inl b), some (.inl c), some (.inl o), some (.inl z)] [] (f, l) Q := by
  refine fl_Tq.stp (pc' := 17) (lv' := [some (.inr (.inr (.inl (76, 277)))), some (.inl a), some (.inl b), some (.inl c), some (.inl o), some (.inl z)]) (st' := [.inl z]) (m' := (f, l)) rfl rfl (fl_bo rfl) rfl ?_
  refine fl_Tq.stp (pc' := 18) (lv' := [some (.inr (.inr (.inl (76, 277)))), some (.inl a), some (.inl b), some (.inl c), some (.inl o), some (.inl z)]) (st' := [.inl c, .inl z]) (m' := (f, l)) rfl rfl (fl_bo rfl) rfl ?_
  refine fl_Tq.jt rfl (fl_bo rfl) (c2_ge_t hk) rfl ?_
  refine fl_Tq.stp (pc' := 36) (lv' := [some (.inr (.inr (.inl (76, 277)))), some (.inl a), some (.inl b), some (.inl c), some (.inl o), some (.inl z)]) (st' := [.inr (.inr (.inl (76, 277)))]) (m' := (f, l)) rfl rfl (fl_bo rfl) rfl ?_
  refine fl_Tq.stp (pc' := 39) (lv' := [some (.inr (.inr (.inl (76, 277)))), some (.inl a), some (.inl b), some (.inl c), some (.inl o), some (.inl z)]) (st' := [.inr (.inr (.inl (79, 280)))]) (m' := (f, l)) rfl rfl (fl_bo rfl) rfl ?_
  refine fl_Tq.stp (pc' := 40) (lv' := [some (.inr (.inr (.inl (76, 277)))), some (.inl a), some (.inl b), some (.inl c), some (.inl o), some (.inl z)]) (st' := [.inl a, .inr (.inr (.inl (79, 280)))]) (m' := (f, l)) rfl rfl (fl_bo rfl) rfl ?_
  refine fl_Tq.cI (c := (0 : Int32)) rfl (by decide +kernel) (fl_bo rfl) ?_
  refine fl_Tq.svV (p := 280) (τ := 79) (n := 29780) (z := (0, 0, 0)) (k := A) (m' := (fl_row f 280 (upd (f 280) A (0 : Int32)), l)) rfl (fl_bo rfl) rfl hA hA1 (t2_upn rfl) ?_
  refine fl_Tq.stp (pc' := 44) (lv' := [some (.inr (.inr (.inl (76, 277)))), some (.inl a), some (.inl b), some (.inl c), some (.inl o), some (.inl z)]) (st' := [.inl o]) (m' := (fl_row f 280 (upd (f 280) A (0 : Int32)), l)) rfl rfl (fl_bo rfl) rfl ?_
  exact fl_Tq.ret rfl rfl rfl k
theorem y_cell_B {L : Nat} {xs : Nat → Int32} {f : t2_F} {l : t2_L} {Q : Option fl_V → fl_M → Prop} {a b c : Int32}  (k : fl_Tq (pw_P L xs) 243 71 [some (.inr (.inr (.inl (76, 277)))), some (.inl a), some (.inl b), some (.inl c), some (.inl (f 280 2)), some (.inl (0 : Int32))] [] (fl_row f 280 (upd (f 280) 2 ((f 280 2) + (1 : Int32))), l) Q) : fl_Tq (pw_P L xs) 243 50 [some (.inr (.inr (.inl (76, 277)))), some (.inl a), some (.inl b), some (.inl c), none, none] [] (f, l) Q := by
  refine fl_Tq.stp (pc' := 51) (lv' := [some (.inr (.inr (.inl (76, 277)))), some (.inl a), some (.inl b), some (.inl c), none, none]) (st' := [.inr (.inr (.inl (76, 277)))]) (m' := (f, l)) rfl rfl (fl_bo rfl) rfl ?_
  refine fl_Tq.stp (pc' := 54) (lv' := [some (.inr (.inr (.inl (76, 277)))), some (.inl a), some (.inl b), some (.inl c), none, none]) (st' := [.inr (.inr (.inl (79, 280)))]) (m' := (f, l)) rfl rfl (fl_bo rfl) rfl ?_
  refine fl_Tq.cI (c := (2 : Int32)) rfl (by decide +kernel) (fl_bo rfl) ?_
  refine fl_Tq.ldV (p := 280) (τ := 79) (n := 29780) (z := (0, 0, 0)) (k := 2) (v := f 280 2) rfl (fl_bo rfl) rfl (by decide +kernel) (by decide) rfl ?_
  refine fl_Tq.stp (pc' := 58) (lv' := [some (.inr (.inr (.inl (76, 277)))), some (.inl a), some (.inl b), some (.inl c), some (.inl (f 280 2)), none]) (st' := []) (m' := (f, l)) rfl rfl (fl_bo rfl) rfl ?_
  refine fl_Tq.stp (pc' := 59) (lv' := [some (.inr (.inr (.inl (76, 277)))), some (.inl a), some (.inl b), some (.inl c), some (.inl (f 280 2)), none]) (st' := [.inr (.inr (.inl (76, 277)))]) (m' := (f, l)) rfl rfl (fl_bo rfl) rfl ?_
  refine fl_Tq.stp (pc' := 62) (lv' := [some (.inr (.inr (.inl (76, 277)))), some (.inl a), some (.inl b), some (.inl c), some (.inl (f 280 2)), none]) (st' := [.inr (.inr (.inl (79, 280)))]) (m' := (f, l)) rfl rfl (fl_bo rfl) rfl ?_
  refine fl_Tq.cI (c := (2 : Int32)) rfl (by decide +kernel) (fl_bo rfl) ?_
  refine fl_Tq.stp (pc' := 64) (lv' := [some (.inr (.inr (.inl (76, 277)))), some (.inl a), some (.inl b), some (.inl c), some (.inl (f 280 2)), none]) (st' := [.inl (2 : Int32), .inr (.inr (.inl (79, 280))), .inl (2 : Int32), .inr (.inr (.inl (79, 280)))]) (m' := (f, l)) rfl rfl (fl_bo rfl) rfl ?_
  refine fl_Tq.ldV (p := 280) (τ := 79) (n := 29780) (z := (0, 0, 0)) (k := 2) (v := f 280 2) rfl (fl_bo rfl) rfl (by decide +kernel) (by decide) rfl ?_
  refine fl_Tq.cI (c := (1 : Int32)) rfl (by decide +kernel) (fl_bo rfl) ?_
  refine fl_Tq.stp (pc' := 67) (lv' := [some (.inr (.inr (.inl (76, 277)))), some (.inl a), some (.inl b), some (.inl c), some (.inl (f 280 2)), none]) (st' := [.inl ((f 280 2) + (1 : Int32)), .inl (2 : Int32), .inr (.inr (.inl (79, 280)))]) (m' := (f, l)) rfl rfl (fl_bo rfl) rfl ?_
  refine fl_Tq.svV (p := 280) (τ := 79) (n := 29780) (z := (0, 0, 0)) (k := 2) (m' := (fl_row f 280 (upd (f 280) 2 ((f 280 2) + (1 : Int32))), l)) rfl (fl_bo rfl) rfl (by decide +kernel) (by decide) (t2_upn rfl) ?_
  refine fl_Tq.cI (c := (0 : Int32)) rfl (by decide +kernel) (fl_bo rfl) ?_
  refine fl_Tq.stp (pc' := 71) (lv' := [some (.inr (.inr (.inl (76, 277)))), some (.inl a), some (.inl b), some (.inl c), some (.inl (f 280 2)), some (.inl (0 : Int32))]) (st' := []) (m' := (fl_row f 280 (upd (f 280) 2 ((f 280 2) + (1 : Int32))), l)) rfl rfl (fl_bo rfl) rfl ?_
  exact k
theorem y_cell_C {L : Nat} {xs : Nat → Int32} {f : t2_F} {l : t2_L} {Q : Option fl_V → fl_M → Prop} {a b c e : Int32} {A j : Nat} (hA : e.toInt = (A : Int)) (hA1 : A < 16) (hj : j < 61) (hk : (Int32.ofNat j).toInt < (61 : Int32).toInt) (k : fl_Tq (pw_P L xs) 243 71 [some (.inr (.inr (.inl (76, 277)))), some (.inl a), some (.inl b), some (.inl c), some (.inl e), some (.inl ((Int32.ofNat j) + (1 : Int32)))] [] (fl_row f 280 (upd (f 280) (444 + 61 * A + j) (0 : Int32)), l) Q) : fl_Tq (pw_P L xs) 243 71 [some (.inr (.inr (.inl (76, 277)))), some (.inl a), some (.inl b), some (.inl c), some (.inl e), some (.inl (Int32.ofNat j))] [] (f, l) Q := by
  refine fl_Tq.stp (pc' := 73) (lv' := [some (.inr (.inr (.inl (76, 277)))), some (.inl a), some (.inl b), some (.inl c), some (.inl e), some (.inl (Int32.ofNat j))]) (st' := [.inl (Int32.ofNat j)]) (m' := (f, l)) rfl rfl (fl_bo rfl) rfl ?_
  refine fl_Tq.cB (c := (61 : Int32)) rfl (by decide +kernel) (fl_bo rfl) ?_
  refine fl_Tq.jf rfl (fl_bo rfl) (c2_ge_f hk) rfl ?_
  refine fl_Tq.stp (pc' := 79) (lv' := [some (.inr (.inr (.inl (76, 277)))), some (.inl a), some (.inl b), some (.inl c), some (.inl e), some (.inl (Int32.ofNat j))]) (st' := [.inr (.inr (.inl (76, 277)))]) (m' := (f, l)) rfl rfl (fl_bo rfl) rfl ?_
  refine fl_Tq.stp (pc' := 81) (lv' := [some (.inr (.inr (.inl (76, 277)))), some (.inl a), some (.inl b), some (.inl c), some (.inl e), some (.inl (Int32.ofNat j))]) (st' := [.inl e, .inr (.inr (.inl (76, 277)))]) (m' := (f, l)) rfl rfl (fl_bo rfl) rfl ?_
  refine fl_Tq.stp (pc' := 83) (lv' := [some (.inr (.inr (.inl (76, 277)))), some (.inl a), some (.inl b), some (.inl c), some (.inl e), some (.inl (Int32.ofNat j))]) (st' := [.inl (Int32.ofNat j), .inl e, .inr (.inr (.inl (76, 277)))]) (m' := (f, l)) rfl rfl (fl_bo rfl) rfl ?_
  refine fl_Tq.cI (c := (0 : Int32)) rfl (by decide +kernel) (fl_bo rfl) ?_
  refine fl_Tq.cal rfl rfl (fl_bo rfl) rfl ?_
  refine t2_let (C := A) (W := j) (m' := (fl_row f 280 (upd (f 280) (444 + 61 * A + j) (0 : Int32)), l)) hA (at_ofN (by omega)) hA1 (by omega) (t2_upn rfl) ?_
  show fl_Tq _ 243 87 [some (.inr (.inr (.inl (76, 277)))), some (.inl a), some (.inl b), some (.inl c), some (.inl e), some (.inl (Int32.ofNat j))] [] (fl_row f 280 (upd (f 280) (444 + 61 * A + j) (0 : Int32)), l) _
  refine fl_Tq.stp (pc' := 90) (lv' := [some (.inr (.inr (.inl (76, 277)))), some (.inl a), some (.inl b), some (.inl c), some (.inl e), some (.inl ((Int32.ofNat j) + (1 : Int32)))]) (st' := []) (m' := (fl_row f 280 (upd (f 280) (444 + 61 * A + j) (0 : Int32)), l)) rfl rfl (fl_bo rfl) rfl ?_
  refine fl_Tq.stp (pc' := 71) (lv' := [some (.inr (.inr (.inl (76, 277)))), some (.inl a), some (.inl b), some (.inl c), some (.inl e), some (.inl ((Int32.ofNat j) + (1 : Int32)))]) (st' := []) (m' := (fl_row f 280 (upd (f 280) (444 + 61 * A + j) (0 : Int32)), l)) rfl rfl (fl_bo rfl) rfl ?_
  exact k
theorem y_cell_D {L : Nat} {xs : Nat → Int32} {f : t2_F} {l : t2_L} {Q : Option fl_V → fl_M → Prop} {a b c e : Int32} {A j : Nat} (hA : e.toInt = (A : Int)) (hA1 : A < 16) (hk : ¬ ((Int32.ofNat j).toInt < (61 : Int32).toInt)) (k : fl_Tq (pw_P L xs) 243 122 [some (.inr (.inr (.inl (76, 277)))), some (.inl a), some (.inl b), some (.inl c), some (.inl e), some (.inl (Int32.ofNat j))] [.inl (3 : Int32), .inl e, .inr (.inr (.inl (76, 277)))] (fl_row f 280 (upd (upd (upd (f 280) (444 + 61 * A + 0) a) (444 + 61 * A + 6) a) (444 + 61 * A + 2) c), l) Q) : fl_Tq (pw_P L xs) 243 71 [some (.inr (.inr (.inl (76, 277)))), some (.inl a), some (.inl b), some (.inl c), some (.inl e), some (.inl (Int32.ofNat j))] [] (f, l) Q := by
  refine fl_Tq.stp (pc' := 73) (lv' := [some (.inr (.inr (.inl (76, 277)))), some (.inl a), some (.inl b), some (.inl c), some (.inl e), some (.inl (Int32.ofNat j))]) (st' := [.inl (Int32.ofNat j)]) (m' := (f, l)) rfl rfl (fl_bo rfl) rfl ?_
  refine fl_Tq.cB (c := (61 : Int32)) rfl (by decide +kernel) (fl_bo rfl) ?_
  refine fl_Tq.jt rfl (fl_bo rfl) (c2_ge_t hk) rfl ?_
  refine fl_Tq.stp (pc' := 94) (lv' := [some (.inr (.inr (.inl (76, 277)))), some (.inl a), some (.inl b), some (.inl c), some (.inl e), some (.inl (Int32.ofNat j))]) (st' := [.inr (.inr (.inl (76, 277)))]) (m' := (f, l)) rfl rfl (fl_bo rfl) rfl ?_
  refine fl_Tq.stp (pc' := 96) (lv' := [some (.inr (.inr (.inl (76, 277)))), some (.inl a), some (.inl b), some (.inl c), some (.inl e), some (.inl (Int32.ofNat j))]) (st' := [.inl e, .inr (.inr (.inl (76, 277)))]) (m' := (f, l)) rfl rfl (fl_bo rfl) rfl ?_
  refine fl_Tq.cI (c := (0 : Int32)) rfl (by decide +kernel) (fl_bo rfl) ?_
  refine fl_Tq.stp (pc' := 98) (lv' := [some (.inr (.inr (.inl (76, 277)))), some (.inl a), some (.inl b), some (.inl c), some (.inl e), some (.inl (Int32.ofNat j))]) (st' := [.inl a, .inl (0 : Int32), .inl e, .inr (.inr (.inl (76, 277)))]) (m' := (f, l)) rfl rfl (fl_bo rfl) rfl ?_
  refine fl_Tq.cal rfl rfl (fl_bo rfl) rfl ?_
  refine t2_let (C := A) (W := 0) (m' := (fl_row f 280 (upd (f 280) (444 + 61 * A + 0) a), l)) hA (by decide +kernel) hA1 (by decide) (t2_upn rfl) ?_
  show fl_Tq _ 243 101 [some (.inr (.inr (.inl (76, 277)))), some (.inl a), some (.inl b), some (.inl c), some (.inl e), some (.inl (Int32.ofNat j))] [] (fl_row f 280 (upd (f 280) (444 + 61 * A + 0) a), l) _
  refine fl_Tq.stp (pc' := 102) (lv' := [some (.inr (.inr (.inl (76, 277)))), some (.inl a), some (.inl b), some (.inl c), some (.inl e), some (.inl (Int32.ofNat j))]) (st' := [.inr (.inr (.inl (76, 277)))]) (m' := (fl_row f 280 (upd (f 280) (444 + 61 * A + 0) a), l)) rfl rfl (fl_bo rfl) rfl ?_
  refine fl_Tq.stp (pc' := 104) (lv' := [some (.inr (.inr (.inl (76, 277)))), some (.inl a), some (.inl b), some (.inl c), some (.inl e), some (.inl (Int32.ofNat j))]) (st' := [.inl e, .inr (.inr (.inl (76, 277)))]) (m' := (fl_row f 280 (upd (f 280) (444 + 61 * A + 0) a), l)) rfl rfl (fl_bo rfl) rfl ?_
  refine fl_Tq.cB (c := (6 : Int32)) rfl (by decide +kernel) (fl_bo rfl) ?_
  refine fl_Tq.stp (pc' := 107) (lv' := [some (.inr (.inr (.inl (76, 277)))), some (.inl a), some (.inl b), some (.inl c), some (.inl e), some (.inl (Int32.ofNat j))]) (st' := [.inl a, .inl (6 : Int32), .inl e, .inr (.inr (.inl (76, 277)))]) (m' := (fl_row f 280 (upd (f 280) (444 + 61 * A + 0) a), l)) rfl rfl (fl_bo rfl) rfl ?_
  refine fl_Tq.cal rfl rfl (fl_bo rfl) rfl ?_
  refine t2_let (C := A) (W := 6) (m' := (fl_row f 280 (upd (upd (f 280) (444 + 61 * A + 0) a) (444 + 61 * A + 6) a), l)) hA (by decide +kernel) hA1 (by decide) (t2_upr) ?_
  show fl_Tq _ 243 110 [some (.inr (.inr (.inl (76, 277)))), some (.inl a), some (.inl b), some (.inl c), some (.inl e), some (.inl (Int32.ofNat j))] [] (fl_row f 280 (upd (upd (f 280) (444 + 61 * A + 0) a) (444 + 61 * A + 6) a), l) _
  refine fl_Tq.stp (pc' := 111) (lv' := [some (.inr (.inr (.inl (76, 277)))), some (.inl a), some (.inl b), some (.inl c), some (.inl e), some (.inl (Int32.ofNat j))]) (st' := [.inr (.inr (.inl (76, 277)))]) (m' := (fl_row f 280 (upd (upd (f 280) (444 + 61 * A + 0) a) (444 + 61 * A + 6) a), l)) rfl rfl (fl_bo rfl) rfl ?_
  refine fl_Tq.stp (pc' := 113) (lv' := [some (.inr (.inr (.inl (76, 277)))), some (.inl a), some (.inl b), some (.inl c), some (.inl e), some (.inl (Int32.ofNat j))]) (st' := [.inl e, .inr (.inr (.inl (76, 277)))]) (m' := (fl_row f 280 (upd (upd (f 280) (444 + 61 * A + 0) a) (444 + 61 * A + 6) a), l)) rfl rfl (fl_bo rfl) rfl ?_
  refine fl_Tq.cI (c := (2 : Int32)) rfl (by decide +kernel) (fl_bo rfl) ?_
  refine fl_Tq.stp (pc' := 115) (lv' := [some (.inr (.inr (.inl (76, 277)))), some (.inl a), some (.inl b), some (.inl c), some (.inl e), some (.inl (Int32.ofNat j))]) (st' := [.inl c, .inl (2 : Int32), .inl e, .inr (.inr (.inl (76, 277)))]) (m' := (fl_row f 280 (upd (upd (f 280) (444 + 61 * A + 0) a) (444 + 61 * A + 6) a), l)) rfl rfl (fl_bo rfl) rfl ?_
  refine fl_Tq.cal rfl rfl (fl_bo rfl) rfl ?_
  refine t2_let (C := A) (W := 2) (m' := (fl_row f 280 (upd (upd (upd (f 280) (444 + 61 * A + 0) a) (444 + 61 * A + 6) a) (444 + 61 * A + 2) c), l)) hA (by decide +kernel) hA1 (by decide) (t2_upr) ?_
  show fl_Tq _ 243 118 [some (.inr (.inr (.inl (76, 277)))), some (.inl a), some (.inl b), some (.inl c), some (.inl e), some (.inl (Int32.ofNat j))] [] (fl_row f 280 (upd (upd (upd (f 280) (444 + 61 * A + 0) a) (444 + 61 * A + 6) a) (444 + 61 * A + 2) c), l) _
  refine fl_Tq.stp (pc' := 119) (lv' := [some (.inr (.inr (.inl (76, 277)))), some (.inl a), some (.inl b), some (.inl c), some (.inl e), some (.inl (Int32.ofNat j))]) (st' := [.inr (.inr (.inl (76, 277)))]) (m' := (fl_row f 280 (upd (upd (upd (f 280) (444 + 61 * A + 0) a) (444 + 61 * A + 6) a) (444 + 61 * A + 2) c), l)) rfl rfl (fl_bo rfl) rfl ?_
  refine fl_Tq.stp (pc' := 121) (lv' := [some (.inr (.inr (.inl (76, 277)))), some (.inl a), some (.inl b), some (.inl c), some (.inl e), some (.inl (Int32.ofNat j))]) (st' := [.inl e, .inr (.inr (.inl (76, 277)))]) (m' := (fl_row f 280 (upd (upd (upd (f 280) (444 + 61 * A + 0) a) (444 + 61 * A + 6) a) (444 + 61 * A + 2) c), l)) rfl rfl (fl_bo rfl) rfl ?_
  refine fl_Tq.cI (c := (3 : Int32)) rfl (by decide +kernel) (fl_bo rfl) ?_
  exact k
theorem y_cell_E {L : Nat} {xs : Nat → Int32} {f : t2_F} {l : t2_L} {Q : Option fl_V → fl_M → Prop} {a b c e o : Int32} {A : Nat} (hA : e.toInt = (A : Int)) (hA1 : A < 16) (k : fl_Tq (pw_P L xs) 243 224 [some (.inr (.inr (.inl (76, 277)))), some (.inl a), some (.inl b), some (.inl c), some (.inl e), some (.inl o)] [.inl e, .inr (.inr (.inl (76, 277))), .inl (17 : Int32), .inl e, .inr (.inr (.inl (76, 277)))] (fl_row f 280 (upd (upd (upd (upd (upd (upd (upd (upd (upd (f 280) (444 + 61 * A + 3) (f 280 40)) (444 + 61 * A + 1) (r_chargeAt_v (fl_row f 280 (upd (f 280) (444 + 61 * A + 3) (f 280 40))) e A b)) (444 + 61 * A + 4) (r_chargeAt_v (fl_row f 280 (upd (upd (f 280) (444 + 61 * A + 3) (f 280 40)) (444 + 61 * A + 1) (r_chargeAt_v (fl_row f 280 (upd (f 280) (444 + 61 * A + 3) (f 280 40))) e A b))) e A b)) (444 + 61 * A + 7) (-2000000000 : Int32)) (444 + 61 * A + 8) (2000000000 : Int32)) (444 + 61 * A + 11) (-1000000 : Int32)) (444 + 61 * A + 12) (-1 : Int32)) (444 + 61 * A + 16) (-1 : Int32)) (444 + 61 * A + 10) (1 : Int32)), l) Q) : fl_Tq (pw_P L xs) 243 122 [some (.inr (.inr (.inl (76, 277)))), some (.inl a), some (.inl b), some (.inl c), some (.inl e), some (.inl o)] [.inl (3 : Int32), .inl e, .inr (.inr (.inl (76, 277)))] (f, l) Q := by
  refine fl_Tq.stp (pc' := 123) (lv' := [some (.inr (.inr (.inl (76, 277)))), some (.inl a), some (.inl b), some (.inl c), some (.inl e), some (.inl o)]) (st' := [.inr (.inr (.inl (76, 277))), .inl (3 : Int32), .inl e, .inr (.inr (.inl (76, 277)))]) (m' := (f, l)) rfl rfl (fl_bo rfl) rfl ?_
  refine fl_Tq.cB (c := (6 : Int32)) rfl (by decide +kernel) (fl_bo rfl) ?_
  refine fl_Tq.cal rfl rfl (fl_bo rfl) rfl ?_
  refine t2_its (W := 6) (v := f 280 40) (by decide +kernel) (by decide) rfl ?_
  show fl_Tq _ 243 128 [some (.inr (.inr (.inl (76, 277)))), some (.inl a), some (.inl b), some (.inl c), some (.inl e), some (.inl o)] [.inl (f 280 40), .inl (3 : Int32), .inl e, .inr (.inr (.inl (76, 277)))] (f, l) _
  refine fl_Tq.cal rfl rfl (fl_bo rfl) rfl ?_
  refine t2_let (C := A) (W := 3) (m' := (fl_row f 280 (upd (f 280) (444 + 61 * A + 3) (f 280 40)), l)) hA (by decide +kernel) hA1 (by decide) (t2_upn rfl) ?_
  show fl_Tq _ 243 131 [some (.inr (.inr (.inl (76, 277)))), some (.inl a), some (.inl b), some (.inl c), some (.inl e), some (.inl o)] [] (fl_row f 280 (upd (f 280) (444 + 61 * A + 3) (f 280 40)), l) _
  refine fl_Tq.stp (pc' := 132) (lv' := [some (.inr (.inr (.inl (76, 277)))), some (.inl a), some (.inl b), some (.inl c), some (.inl e), some (.inl o)]) (st' := [.inr (.inr (.inl (76, 277)))]) (m' := (fl_row f 280 (upd (f 280) (444 + 61 * A + 3) (f 280 40)), l)) rfl rfl (fl_bo rfl) rfl ?_
  refine fl_Tq.stp (pc' := 134) (lv' := [some (.inr (.inr (.inl (76, 277)))), some (.inl a), some (.inl b), some (.inl c), some (.inl e), some (.inl o)]) (st' := [.inl e, .inr (.inr (.inl (76, 277)))]) (m' := (fl_row f 280 (upd (f 280) (444 + 61 * A + 3) (f 280 40)), l)) rfl rfl (fl_bo rfl) rfl ?_
  refine fl_Tq.cI (c := (1 : Int32)) rfl (by decide +kernel) (fl_bo rfl) ?_
  refine fl_Tq.stp (pc' := 136) (lv' := [some (.inr (.inr (.inl (76, 277)))), some (.inl a), some (.inl b), some (.inl c), some (.inl e), some (.inl o)]) (st' := [.inr (.inr (.inl (76, 277))), .inl (1 : Int32), .inl e, .inr (.inr (.inl (76, 277)))]) (m' := (fl_row f 280 (upd (f 280) (444 + 61 * A + 3) (f 280 40)), l)) rfl rfl (fl_bo rfl) rfl ?_
  refine fl_Tq.stp (pc' := 138) (lv' := [some (.inr (.inr (.inl (76, 277)))), some (.inl a), some (.inl b), some (.inl c), some (.inl e), some (.inl o)]) (st' := [.inl e, .inr (.inr (.inl (76, 277))), .inl (1 : Int32), .inl e, .inr (.inr (.inl (76, 277)))]) (m' := (fl_row f 280 (upd (f 280) (444 + 61 * A + 3) (f 280 40)), l)) rfl rfl (fl_bo rfl) rfl ?_
  refine fl_Tq.stp (pc' := 139) (lv' := [some (.inr (.inr (.inl (76, 277)))), some (.inl a), some (.inl b), some (.inl c), some (.inl e), some (.inl o)]) (st' := [.inl b, .inl e, .inr (.inr (.inl (76, 277))), .inl (1 : Int32), .inl e, .inr (.inr (.inl (76, 277)))]) (m' := (fl_row f 280 (upd (f 280) (444 + 61 * A + 3) (f 280 40)), l)) rfl rfl (fl_bo rfl) rfl ?_
  refine fl_Tq.cal rfl rfl (fl_bo rfl) rfl ?_
  refine r_chargeAt_q hA hA1 ?_
  show fl_Tq _ 243 142 [some (.inr (.inr (.inl (76, 277)))), some (.inl a), some (.inl b), some (.inl c), some (.inl e), some (.inl o)] [.inl (r_chargeAt_v (fl_row f 280 (upd (f 280) (444 + 61 * A + 3) (f 280 40))) e A b), .inl (1 : Int32), .inl e, .inr (.inr (.inl (76, 277)))] (fl_row f 280 (upd (f 280) (444 + 61 * A + 3) (f 280 40)), l) _
  refine fl_Tq.cal rfl rfl (fl_bo rfl) rfl ?_
  refine t2_let (C := A) (W := 1) (m' := (fl_row f 280 (upd (upd (f 280) (444 + 61 * A + 3) (f 280 40)) (444 + 61 * A + 1) (r_chargeAt_v (fl_row f 280 (upd (f 280) (444 + 61 * A + 3) (f 280 40))) e A b)), l)) hA (by decide +kernel) hA1 (by decide) (t2_upr) ?_
  show fl_Tq _ 243 145 [some (.inr (.inr (.inl (76, 277)))), some (.inl a), some (.inl b), some (.inl c), some (.inl e), some (.inl o)] [] (fl_row f 280 (upd (upd (f 280) (444 + 61 * A + 3) (f 280 40)) (444 + 61 * A + 1) (r_chargeAt_v (fl_row f 280 (upd (f 280) (444 + 61 * A + 3) (f 280 40))) e A b)), l) _
  refine fl_Tq.stp (pc' := 146) (lv' := [some (.inr (.inr (.inl (76, 277)))), some (.inl a), some (.inl b), some (.inl c), some (.inl e), some (.inl o)]) (st' := [.inr (.inr (.inl (76, 277)))]) (m' := (fl_row f 280 (upd (upd (f 280) (444 + 61 * A + 3) (f 280 40)) (444 + 61 * A + 1) (r_chargeAt_v (fl_row f 280 (upd (f 280) (444 + 61 * A + 3) (f 280 40))) e A b)), l)) rfl rfl (fl_bo rfl) rfl ?_
  refine fl_Tq.stp (pc' := 148) (lv' := [some (.inr (.inr (.inl (76, 277)))), some (.inl a), some (.inl b), some (.inl c), some (.inl e), some (.inl o)]) (st' := [.inl e, .inr (.inr (.inl (76, 277)))]) (m' := (fl_row f 280 (upd (upd (f 280) (444 + 61 * A + 3) (f 280 40)) (444 + 61 * A + 1) (r_chargeAt_v (fl_row f 280 (upd (f 280) (444 + 61 * A + 3) (f 280 40))) e A b)), l)) rfl rfl (fl_bo rfl) rfl ?_
  refine fl_Tq.cI (c := (4 : Int32)) rfl (by decide +kernel) (fl_bo rfl) ?_
  refine fl_Tq.stp (pc' := 150) (lv' := [some (.inr (.inr (.inl (76, 277)))), some (.inl a), some (.inl b), some (.inl c), some (.inl e), some (.inl o)]) (st' := [.inr (.inr (.inl (76, 277))), .inl (4 : Int32), .inl e, .inr (.inr (.inl (76, 277)))]) (m' := (fl_row f 280 (upd (upd (f 280) (444 + 61 * A + 3) (f 280 40)) (444 + 61 * A + 1) (r_chargeAt_v (fl_row f 280 (upd (f 280) (444 + 61 * A + 3) (f 280 40))) e A b)), l)) rfl rfl (fl_bo rfl) rfl ?_
  refine fl_Tq.stp (pc' := 152) (lv' := [some (.inr (.inr (.inl (76, 277)))), some (.inl a), some (.inl b), some (.inl c), some (.inl e), some (.inl o)]) (st' := [.inl e, .inr (.inr (.inl (76, 277))), .inl (4 : Int32), .inl e, .inr (.inr (.inl (76, 277)))]) (m' := (fl_row f 280 (upd (upd (f 280) (444 + 61 * A + 3) (f 280 40)) (444 + 61 * A + 1) (r_chargeAt_v (fl_row f 280 (upd (f 280) (444 + 61 * A + 3) (f 280 40))) e A b)), l)) rfl rfl (fl_bo rfl) rfl ?_
  refine fl_Tq.stp (pc' := 153) (lv' := [some (.inr (.inr (.inl (76, 277)))), some (.inl a), some (.inl b), some (.inl c), some (.inl e), some (.inl o)]) (st' := [.inl b, .inl e, .inr (.inr (.inl (76, 277))), .inl (4 : Int32), .inl e, .inr (.inr (.inl (76, 277)))]) (m' := (fl_row f 280 (upd (upd (f 280) (444 + 61 * A + 3) (f 280 40)) (444 + 61 * A + 1) (r_chargeAt_v (fl_row f 280 (upd (f 280) (444 + 61 * A + 3) (f 280 40))) e A b)), l)) rfl rfl (fl_bo rfl) rfl ?_
  refine fl_Tq.cal rfl rfl (fl_bo rfl) rfl ?_
  refine r_chargeAt_q hA hA1 ?_
  show fl_Tq _ 243 156 [some (.inr (.inr (.inl (76, 277)))), some (.inl a), some (.inl b), some (.inl c), some (.inl e), some (.inl o)] [.inl (r_chargeAt_v (fl_row f 280 (upd (upd (f 280) (444 + 61 * A + 3) (f 280 40)) (444 + 61 * A + 1) (r_chargeAt_v (fl_row f 280 (upd (f 280) (444 + 61 * A + 3) (f 280 40))) e A b))) e A b), .inl (4 : Int32), .inl e, .inr (.inr (.inl (76, 277)))] (fl_row f 280 (upd (upd (f 280) (444 + 61 * A + 3) (f 280 40)) (444 + 61 * A + 1) (r_chargeAt_v (fl_row f 280 (upd (f 280) (444 + 61 * A + 3) (f 280 40))) e A b)), l) _
  refine fl_Tq.cal rfl rfl (fl_bo rfl) rfl ?_
  refine t2_let (C := A) (W := 4) (m' := (fl_row f 280 (upd (upd (upd (f 280) (444 + 61 * A + 3) (f 280 40)) (444 + 61 * A + 1) (r_chargeAt_v (fl_row f 280 (upd (f 280) (444 + 61 * A + 3) (f 280 40))) e A b)) (444 + 61 * A + 4) (r_chargeAt_v (fl_row f 280 (upd (upd (f 280) (444 + 61 * A + 3) (f 280 40)) (444 + 61 * A + 1) (r_chargeAt_v (fl_row f 280 (upd (f 280) (444 + 61 * A + 3) (f 280 40))) e A b))) e A b)), l)) hA (by decide +kernel) hA1 (by decide) (t2_upr) ?_
  show fl_Tq _ 243 159 [some (.inr (.inr (.inl (76, 277)))), some (.inl a), some (.inl b), some (.inl c), some (.inl e), some (.inl o)] [] (fl_row f 280 (upd (upd (upd (f 280) (444 + 61 * A + 3) (f 280 40)) (444 + 61 * A + 1) (r_chargeAt_v (fl_row f 280 (upd (f 280) (444 + 61 * A + 3) (f 280 40))) e A b)) (444 + 61 * A + 4) (r_chargeAt_v (fl_row f 280 (upd (upd (f 280) (444 + 61 * A + 3) (f 280 40)) (444 + 61 * A + 1) (r_chargeAt_v (fl_row f 280 (upd (f 280) (444 + 61 * A + 3) (f 280 40))) e A b))) e A b)), l) _
  refine fl_Tq.stp (pc' := 160) (lv' := [some (.inr (.inr (.inl (76, 277)))), some (.inl a), some (.inl b), some (.inl c), some (.inl e), some (.inl o)]) (st' := [.inr (.inr (.inl (76, 277)))]) (m' := (fl_row f 280 (upd (upd (upd (f 280) (444 + 61 * A + 3) (f 280 40)) (444 + 61 * A + 1) (r_chargeAt_v (fl_row f 280 (upd (f 280) (444 + 61 * A + 3) (f 280 40))) e A b)) (444 + 61 * A + 4) (r_chargeAt_v (fl_row f 280 (upd (upd (f 280) (444 + 61 * A + 3) (f 280 40)) (444 + 61 * A + 1) (r_chargeAt_v (fl_row f 280 (upd (f 280) (444 + 61 * A + 3) (f 280 40))) e A b))) e A b)), l)) rfl rfl (fl_bo rfl) rfl ?_
  refine fl_Tq.stp (pc' := 162) (lv' := [some (.inr (.inr (.inl (76, 277)))), some (.inl a), some (.inl b), some (.inl c), some (.inl e), some (.inl o)]) (st' := [.inl e, .inr (.inr (.inl (76, 277)))]) (m' := (fl_row f 280 (upd (upd (upd (f 280) (444 + 61 * A + 3) (f 280 40)) (444 + 61 * A + 1) (r_chargeAt_v (fl_row f 280 (upd (f 280) (444 + 61 * A + 3) (f 280 40))) e A b)) (444 + 61 * A + 4) (r_chargeAt_v (fl_row f 280 (upd (upd (f 280) (444 + 61 * A + 3) (f 280 40)) (444 + 61 * A + 1) (r_chargeAt_v (fl_row f 280 (upd (f 280) (444 + 61 * A + 3) (f 280 40))) e A b))) e A b)), l)) rfl rfl (fl_bo rfl) rfl ?_
  refine fl_Tq.cB (c := (7 : Int32)) rfl (by decide +kernel) (fl_bo rfl) ?_
  refine fl_Tq.stp (pc' := 166) (lv' := [some (.inr (.inr (.inl (76, 277)))), some (.inl a), some (.inl b), some (.inl c), some (.inl e), some (.inl o)]) (st' := [.inl (-2000000000 : Int32), .inl (7 : Int32), .inl e, .inr (.inr (.inl (76, 277)))]) (m' := (fl_row f 280 (upd (upd (upd (f 280) (444 + 61 * A + 3) (f 280 40)) (444 + 61 * A + 1) (r_chargeAt_v (fl_row f 280 (upd (f 280) (444 + 61 * A + 3) (f 280 40))) e A b)) (444 + 61 * A + 4) (r_chargeAt_v (fl_row f 280 (upd (upd (f 280) (444 + 61 * A + 3) (f 280 40)) (444 + 61 * A + 1) (r_chargeAt_v (fl_row f 280 (upd (f 280) (444 + 61 * A + 3) (f 280 40))) e A b))) e A b)), l)) rfl rfl (fl_bo rfl) rfl ?_
  refine fl_Tq.cal rfl rfl (fl_bo rfl) rfl ?_
  refine t2_let (C := A) (W := 7) (m' := (fl_row f 280 (upd (upd (upd (upd (f 280) (444 + 61 * A + 3) (f 280 40)) (444 + 61 * A + 1) (r_chargeAt_v (fl_row f 280 (upd (f 280) (444 + 61 * A + 3) (f 280 40))) e A b)) (444 + 61 * A + 4) (r_chargeAt_v (fl_row f 280 (upd (upd (f 280) (444 + 61 * A + 3) (f 280 40)) (444 + 61 * A + 1) (r_chargeAt_v (fl_row f 280 (upd (f 280) (444 + 61 * A + 3) (f 280 40))) e A b))) e A b)) (444 + 61 * A + 7) (-2000000000 : Int32)), l)) hA (by decide +kernel) hA1 (by decide) (t2_upr) ?_
  show fl_Tq _ 243 169 [some (.inr (.inr (.inl (76, 277)))), some (.inl a), some (.inl b), some (.inl c), some (.inl e), some (.inl o)] [] (fl_row f 280 (upd (upd (upd (upd (f 280) (444 + 61 * A + 3) (f 280 40)) (444 + 61 * A + 1) (r_chargeAt_v (fl_row f 280 (upd (f 280) (444 + 61 * A + 3) (f 280 40))) e A b)) (444 + 61 * A + 4) (r_chargeAt_v (fl_row f 280 (upd (upd (f 280) (444 + 61 * A + 3) (f 280 40)) (444 + 61 * A + 1) (r_chargeAt_v (fl_row f 280 (upd (f 280) (444 + 61 * A + 3) (f 280 40))) e A b))) e A b)) (444 + 61 * A + 7) (-2000000000 : Int32)), l) _
  refine fl_Tq.stp (pc' := 170) (lv' := [some (.inr (.inr (.inl (76, 277)))), some (.inl a), some (.inl b), some (.inl c), some (.inl e), some (.inl o)]) (st' := [.inr (.inr (.inl (76, 277)))]) (m' := (fl_row f 280 (upd (upd (upd (upd (f 280) (444 + 61 * A + 3) (f 280 40)) (444 + 61 * A + 1) (r_chargeAt_v (fl_row f 280 (upd (f 280) (444 + 61 * A + 3) (f 280 40))) e A b)) (444 + 61 * A + 4) (r_chargeAt_v (fl_row f 280 (upd (upd (f 280) (444 + 61 * A + 3) (f 280 40)) (444 + 61 * A + 1) (r_chargeAt_v (fl_row f 280 (upd (f 280) (444 + 61 * A + 3) (f 280 40))) e A b))) e A b)) (444 + 61 * A + 7) (-2000000000 : Int32)), l)) rfl rfl (fl_bo rfl) rfl ?_
  refine fl_Tq.stp (pc' := 172) (lv' := [some (.inr (.inr (.inl (76, 277)))), some (.inl a), some (.inl b), some (.inl c), some (.inl e), some (.inl o)]) (st' := [.inl e, .inr (.inr (.inl (76, 277)))]) (m' := (fl_row f 280 (upd (upd (upd (upd (f 280) (444 + 61 * A + 3) (f 280 40)) (444 + 61 * A + 1) (r_chargeAt_v (fl_row f 280 (upd (f 280) (444 + 61 * A + 3) (f 280 40))) e A b)) (444 + 61 * A + 4) (r_chargeAt_v (fl_row f 280 (upd (upd (f 280) (444 + 61 * A + 3) (f 280 40)) (444 + 61 * A + 1) (r_chargeAt_v (fl_row f 280 (upd (f 280) (444 + 61 * A + 3) (f 280 40))) e A b))) e A b)) (444 + 61 * A + 7) (-2000000000 : Int32)), l)) rfl rfl (fl_bo rfl) rfl ?_
  refine fl_Tq.cB (c := (8 : Int32)) rfl (by decide +kernel) (fl_bo rfl) ?_
  refine fl_Tq.stp (pc' := 176) (lv' := [some (.inr (.inr (.inl (76, 277)))), some (.inl a), some (.inl b), some (.inl c), some (.inl e), some (.inl o)]) (st' := [.inl (2000000000 : Int32), .inl (8 : Int32), .inl e, .inr (.inr (.inl (76, 277)))]) (m' := (fl_row f 280 (upd (upd (upd (upd (f 280) (444 + 61 * A + 3) (f 280 40)) (444 + 61 * A + 1) (r_chargeAt_v (fl_row f 280 (upd (f 280) (444 + 61 * A + 3) (f 280 40))) e A b)) (444 + 61 * A + 4) (r_chargeAt_v (fl_row f 280 (upd (upd (f 280) (444 + 61 * A + 3) (f 280 40)) (444 + 61 * A + 1) (r_chargeAt_v (fl_row f 280 (upd (f 280) (444 + 61 * A + 3) (f 280 40))) e A b))) e A b)) (444 + 61 * A + 7) (-2000000000 : Int32)), l)) rfl rfl (fl_bo rfl) rfl ?_
  refine fl_Tq.cal rfl rfl (fl_bo rfl) rfl ?_
  refine t2_let (C := A) (W := 8) (m' := (fl_row f 280 (upd (upd (upd (upd (upd (f 280) (444 + 61 * A + 3) (f 280 40)) (444 + 61 * A + 1) (r_chargeAt_v (fl_row f 280 (upd (f 280) (444 + 61 * A + 3) (f 280 40))) e A b)) (444 + 61 * A + 4) (r_chargeAt_v (fl_row f 280 (upd (upd (f 280) (444 + 61 * A + 3) (f 280 40)) (444 + 61 * A + 1) (r_chargeAt_v (fl_row f 280 (upd (f 280) (444 + 61 * A + 3) (f 280 40))) e A b))) e A b)) (444 + 61 * A + 7) (-2000000000 : Int32)) (444 + 61 * A + 8) (2000000000 : Int32)), l)) hA (by decide +kernel) hA1 (by decide) (t2_upr) ?_
  show fl_Tq _ 243 179 [some (.inr (.inr (.inl (76, 277)))), some (.inl a), some (.inl b), some (.inl c), some (.inl e), some (.inl o)] [] (fl_row f 280 (upd (upd (upd (upd (upd (f 280) (444 + 61 * A + 3) (f 280 40)) (444 + 61 * A + 1) (r_chargeAt_v (fl_row f 280 (upd (f 280) (444 + 61 * A + 3) (f 280 40))) e A b)) (444 + 61 * A + 4) (r_chargeAt_v (fl_row f 280 (upd (upd (f 280) (444 + 61 * A + 3) (f 280 40)) (444 + 61 * A + 1) (r_chargeAt_v (fl_row f 280 (upd (f 280) (444 + 61 * A + 3) (f 280 40))) e A b))) e A b)) (444 + 61 * A + 7) (-2000000000 : Int32)) (444 + 61 * A + 8) (2000000000 : Int32)), l) _
  refine fl_Tq.stp (pc' := 180) (lv' := [some (.inr (.inr (.inl (76, 277)))), some (.inl a), some (.inl b), some (.inl c), some (.inl e), some (.inl o)]) (st' := [.inr (.inr (.inl (76, 277)))]) (m' := (fl_row f 280 (upd (upd (upd (upd (upd (f 280) (444 + 61 * A + 3) (f 280 40)) (444 + 61 * A + 1) (r_chargeAt_v (fl_row f 280 (upd (f 280) (444 + 61 * A + 3) (f 280 40))) e A b)) (444 + 61 * A + 4) (r_chargeAt_v (fl_row f 280 (upd (upd (f 280) (444 + 61 * A + 3) (f 280 40)) (444 + 61 * A + 1) (r_chargeAt_v (fl_row f 280 (upd (f 280) (444 + 61 * A + 3) (f 280 40))) e A b))) e A b)) (444 + 61 * A + 7) (-2000000000 : Int32)) (444 + 61 * A + 8) (2000000000 : Int32)), l)) rfl rfl (fl_bo rfl) rfl ?_
  refine fl_Tq.stp (pc' := 182) (lv' := [some (.inr (.inr (.inl (76, 277)))), some (.inl a), some (.inl b), some (.inl c), some (.inl e), some (.inl o)]) (st' := [.inl e, .inr (.inr (.inl (76, 277)))]) (m' := (fl_row f 280 (upd (upd (upd (upd (upd (f 280) (444 + 61 * A + 3) (f 280 40)) (444 + 61 * A + 1) (r_chargeAt_v (fl_row f 280 (upd (f 280) (444 + 61 * A + 3) (f 280 40))) e A b)) (444 + 61 * A + 4) (r_chargeAt_v (fl_row f 280 (upd (upd (f 280) (444 + 61 * A + 3) (f 280 40)) (444 + 61 * A + 1) (r_chargeAt_v (fl_row f 280 (upd (f 280) (444 + 61 * A + 3) (f 280 40))) e A b))) e A b)) (444 + 61 * A + 7) (-2000000000 : Int32)) (444 + 61 * A + 8) (2000000000 : Int32)), l)) rfl rfl (fl_bo rfl) rfl ?_
  refine fl_Tq.cB (c := (11 : Int32)) rfl (by decide +kernel) (fl_bo rfl) ?_
  refine fl_Tq.stp (pc' := 186) (lv' := [some (.inr (.inr (.inl (76, 277)))), some (.inl a), some (.inl b), some (.inl c), some (.inl e), some (.inl o)]) (st' := [.inl (-1000000 : Int32), .inl (11 : Int32), .inl e, .inr (.inr (.inl (76, 277)))]) (m' := (fl_row f 280 (upd (upd (upd (upd (upd (f 280) (444 + 61 * A + 3) (f 280 40)) (444 + 61 * A + 1) (r_chargeAt_v (fl_row f 280 (upd (f 280) (444 + 61 * A + 3) (f 280 40))) e A b)) (444 + 61 * A + 4) (r_chargeAt_v (fl_row f 280 (upd (upd (f 280) (444 + 61 * A + 3) (f 280 40)) (444 + 61 * A + 1) (r_chargeAt_v (fl_row f 280 (upd (f 280) (444 + 61 * A + 3) (f 280 40))) e A b))) e A b)) (444 + 61 * A + 7) (-2000000000 : Int32)) (444 + 61 * A + 8) (2000000000 : Int32)), l)) rfl rfl (fl_bo rfl) rfl ?_
  refine fl_Tq.cal rfl rfl (fl_bo rfl) rfl ?_
  refine t2_let (C := A) (W := 11) (m' := (fl_row f 280 (upd (upd (upd (upd (upd (upd (f 280) (444 + 61 * A + 3) (f 280 40)) (444 + 61 * A + 1) (r_chargeAt_v (fl_row f 280 (upd (f 280) (444 + 61 * A + 3) (f 280 40))) e A b)) (444 + 61 * A + 4) (r_chargeAt_v (fl_row f 280 (upd (upd (f 280) (444 + 61 * A + 3) (f 280 40)) (444 + 61 * A + 1) (r_chargeAt_v (fl_row f 280 (upd (f 280) (444 + 61 * A + 3) (f 280 40))) e A b))) e A b)) (444 + 61 * A + 7) (-2000000000 : Int32)) (444 + 61 * A + 8) (2000000000 : Int32)) (444 + 61 * A + 11) (-1000000 : Int32)), l)) hA (by decide +kernel) hA1 (by decide) (t2_upr) ?_
  show fl_Tq _ 243 189 [some (.inr (.inr (.inl (76, 277)))), some (.inl a), some (.inl b), some (.inl c), some (.inl e), some (.inl o)] [] (fl_row f 280 (upd (upd (upd (upd (upd (upd (f 280) (444 + 61 * A + 3) (f 280 40)) (444 + 61 * A + 1) (r_chargeAt_v (fl_row f 280 (upd (f 280) (444 + 61 * A + 3) (f 280 40))) e A b)) (444 + 61 * A + 4) (r_chargeAt_v (fl_row f 280 (upd (upd (f 280) (444 + 61 * A + 3) (f 280 40)) (444 + 61 * A + 1) (r_chargeAt_v (fl_row f 280 (upd (f 280) (444 + 61 * A + 3) (f 280 40))) e A b))) e A b)) (444 + 61 * A + 7) (-2000000000 : Int32)) (444 + 61 * A + 8) (2000000000 : Int32)) (444 + 61 * A + 11) (-1000000 : Int32)), l) _
  refine fl_Tq.stp (pc' := 190) (lv' := [some (.inr (.inr (.inl (76, 277)))), some (.inl a), some (.inl b), some (.inl c), some (.inl e), some (.inl o)]) (st' := [.inr (.inr (.inl (76, 277)))]) (m' := (fl_row f 280 (upd (upd (upd (upd (upd (upd (f 280) (444 + 61 * A + 3) (f 280 40)) (444 + 61 * A + 1) (r_chargeAt_v (fl_row f 280 (upd (f 280) (444 + 61 * A + 3) (f 280 40))) e A b)) (444 + 61 * A + 4) (r_chargeAt_v (fl_row f 280 (upd (upd (f 280) (444 + 61 * A + 3) (f 280 40)) (444 + 61 * A + 1) (r_chargeAt_v (fl_row f 280 (upd (f 280) (444 + 61 * A + 3) (f 280 40))) e A b))) e A b)) (444 + 61 * A + 7) (-2000000000 : Int32)) (444 + 61 * A + 8) (2000000000 : Int32)) (444 + 61 * A + 11) (-1000000 : Int32)), l)) rfl rfl (fl_bo rfl) rfl ?_
  refine fl_Tq.stp (pc' := 192) (lv' := [some (.inr (.inr (.inl (76, 277)))), some (.inl a), some (.inl b), some (.inl c), some (.inl e), some (.inl o)]) (st' := [.inl e, .inr (.inr (.inl (76, 277)))]) (m' := (fl_row f 280 (upd (upd (upd (upd (upd (upd (f 280) (444 + 61 * A + 3) (f 280 40)) (444 + 61 * A + 1) (r_chargeAt_v (fl_row f 280 (upd (f 280) (444 + 61 * A + 3) (f 280 40))) e A b)) (444 + 61 * A + 4) (r_chargeAt_v (fl_row f 280 (upd (upd (f 280) (444 + 61 * A + 3) (f 280 40)) (444 + 61 * A + 1) (r_chargeAt_v (fl_row f 280 (upd (f 280) (444 + 61 * A + 3) (f 280 40))) e A b))) e A b)) (444 + 61 * A + 7) (-2000000000 : Int32)) (444 + 61 * A + 8) (2000000000 : Int32)) (444 + 61 * A + 11) (-1000000 : Int32)), l)) rfl rfl (fl_bo rfl) rfl ?_
  refine fl_Tq.cB (c := (12 : Int32)) rfl (by decide +kernel) (fl_bo rfl) ?_
  refine fl_Tq.cI (c := (-1 : Int32)) rfl (by decide +kernel) (fl_bo rfl) ?_
  refine fl_Tq.cal rfl rfl (fl_bo rfl) rfl ?_
  refine t2_let (C := A) (W := 12) (m' := (fl_row f 280 (upd (upd (upd (upd (upd (upd (upd (f 280) (444 + 61 * A + 3) (f 280 40)) (444 + 61 * A + 1) (r_chargeAt_v (fl_row f 280 (upd (f 280) (444 + 61 * A + 3) (f 280 40))) e A b)) (444 + 61 * A + 4) (r_chargeAt_v (fl_row f 280 (upd (upd (f 280) (444 + 61 * A + 3) (f 280 40)) (444 + 61 * A + 1) (r_chargeAt_v (fl_row f 280 (upd (f 280) (444 + 61 * A + 3) (f 280 40))) e A b))) e A b)) (444 + 61 * A + 7) (-2000000000 : Int32)) (444 + 61 * A + 8) (2000000000 : Int32)) (444 + 61 * A + 11) (-1000000 : Int32)) (444 + 61 * A + 12) (-1 : Int32)), l)) hA (by decide +kernel) hA1 (by decide) (t2_upr) ?_
  show fl_Tq _ 243 198 [some (.inr (.inr (.inl (76, 277)))), some (.inl a), some (.inl b), some (.inl c), some (.inl e), some (.inl o)] [] (fl_row f 280 (upd (upd (upd (upd (upd (upd (upd (f 280) (444 + 61 * A + 3) (f 280 40)) (444 + 61 * A + 1) (r_chargeAt_v (fl_row f 280 (upd (f 280) (444 + 61 * A + 3) (f 280 40))) e A b)) (444 + 61 * A + 4) (r_chargeAt_v (fl_row f 280 (upd (upd (f 280) (444 + 61 * A + 3) (f 280 40)) (444 + 61 * A + 1) (r_chargeAt_v (fl_row f 280 (upd (f 280) (444 + 61 * A + 3) (f 280 40))) e A b))) e A b)) (444 + 61 * A + 7) (-2000000000 : Int32)) (444 + 61 * A + 8) (2000000000 : Int32)) (444 + 61 * A + 11) (-1000000 : Int32)) (444 + 61 * A + 12) (-1 : Int32)), l) _
  refine fl_Tq.stp (pc' := 199) (lv' := [some (.inr (.inr (.inl (76, 277)))), some (.inl a), some (.inl b), some (.inl c), some (.inl e), some (.inl o)]) (st' := [.inr (.inr (.inl (76, 277)))]) (m' := (fl_row f 280 (upd (upd (upd (upd (upd (upd (upd (f 280) (444 + 61 * A + 3) (f 280 40)) (444 + 61 * A + 1) (r_chargeAt_v (fl_row f 280 (upd (f 280) (444 + 61 * A + 3) (f 280 40))) e A b)) (444 + 61 * A + 4) (r_chargeAt_v (fl_row f 280 (upd (upd (f 280) (444 + 61 * A + 3) (f 280 40)) (444 + 61 * A + 1) (r_chargeAt_v (fl_row f 280 (upd (f 280) (444 + 61 * A + 3) (f 280 40))) e A b))) e A b)) (444 + 61 * A + 7) (-2000000000 : Int32)) (444 + 61 * A + 8) (2000000000 : Int32)) (444 + 61 * A + 11) (-1000000 : Int32)) (444 + 61 * A + 12) (-1 : Int32)), l)) rfl rfl (fl_bo rfl) rfl ?_
  refine fl_Tq.stp (pc' := 201) (lv' := [some (.inr (.inr (.inl (76, 277)))), some (.inl a), some (.inl b), some (.inl c), some (.inl e), some (.inl o)]) (st' := [.inl e, .inr (.inr (.inl (76, 277)))]) (m' := (fl_row f 280 (upd (upd (upd (upd (upd (upd (upd (f 280) (444 + 61 * A + 3) (f 280 40)) (444 + 61 * A + 1) (r_chargeAt_v (fl_row f 280 (upd (f 280) (444 + 61 * A + 3) (f 280 40))) e A b)) (444 + 61 * A + 4) (r_chargeAt_v (fl_row f 280 (upd (upd (f 280) (444 + 61 * A + 3) (f 280 40)) (444 + 61 * A + 1) (r_chargeAt_v (fl_row f 280 (upd (f 280) (444 + 61 * A + 3) (f 280 40))) e A b))) e A b)) (444 + 61 * A + 7) (-2000000000 : Int32)) (444 + 61 * A + 8) (2000000000 : Int32)) (444 + 61 * A + 11) (-1000000 : Int32)) (444 + 61 * A + 12) (-1 : Int32)), l)) rfl rfl (fl_bo rfl) rfl ?_
  refine fl_Tq.cB (c := (16 : Int32)) rfl (by decide +kernel) (fl_bo rfl) ?_
  refine fl_Tq.cI (c := (-1 : Int32)) rfl (by decide +kernel) (fl_bo rfl) ?_
  refine fl_Tq.cal rfl rfl (fl_bo rfl) rfl ?_
  refine t2_let (C := A) (W := 16) (m' := (fl_row f 280 (upd (upd (upd (upd (upd (upd (upd (upd (f 280) (444 + 61 * A + 3) (f 280 40)) (444 + 61 * A + 1) (r_chargeAt_v (fl_row f 280 (upd (f 280) (444 + 61 * A + 3) (f 280 40))) e A b)) (444 + 61 * A + 4) (r_chargeAt_v (fl_row f 280 (upd (upd (f 280) (444 + 61 * A + 3) (f 280 40)) (444 + 61 * A + 1) (r_chargeAt_v (fl_row f 280 (upd (f 280) (444 + 61 * A + 3) (f 280 40))) e A b))) e A b)) (444 + 61 * A + 7) (-2000000000 : Int32)) (444 + 61 * A + 8) (2000000000 : Int32)) (444 + 61 * A + 11) (-1000000 : Int32)) (444 + 61 * A + 12) (-1 : Int32)) (444 + 61 * A + 16) (-1 : Int32)), l)) hA (by decide +kernel) hA1 (by decide) (t2_upr) ?_
  show fl_Tq _ 243 207 [some (.inr (.inr (.inl (76, 277)))), some (.inl a), some (.inl b), some (.inl c), some (.inl e), some (.inl o)] [] (fl_row f 280 (upd (upd (upd (upd (upd (upd (upd (upd (f 280) (444 + 61 * A + 3) (f 280 40)) (444 + 61 * A + 1) (r_chargeAt_v (fl_row f 280 (upd (f 280) (444 + 61 * A + 3) (f 280 40))) e A b)) (444 + 61 * A + 4) (r_chargeAt_v (fl_row f 280 (upd (upd (f 280) (444 + 61 * A + 3) (f 280 40)) (444 + 61 * A + 1) (r_chargeAt_v (fl_row f 280 (upd (f 280) (444 + 61 * A + 3) (f 280 40))) e A b))) e A b)) (444 + 61 * A + 7) (-2000000000 : Int32)) (444 + 61 * A + 8) (2000000000 : Int32)) (444 + 61 * A + 11) (-1000000 : Int32)) (444 + 61 * A + 12) (-1 : Int32)) (444 + 61 * A + 16) (-1 : Int32)), l) _
  refine fl_Tq.stp (pc' := 208) (lv' := [some (.inr (.inr (.inl (76, 277)))), some (.inl a), some (.inl b), some (.inl c), some (.inl e), some (.inl o)]) (st' := [.inr (.inr (.inl (76, 277)))]) (m' := (fl_row f 280 (upd (upd (upd (upd (upd (upd (upd (upd (f 280) (444 + 61 * A + 3) (f 280 40)) (444 + 61 * A + 1) (r_chargeAt_v (fl_row f 280 (upd (f 280) (444 + 61 * A + 3) (f 280 40))) e A b)) (444 + 61 * A + 4) (r_chargeAt_v (fl_row f 280 (upd (upd (f 280) (444 + 61 * A + 3) (f 280 40)) (444 + 61 * A + 1) (r_chargeAt_v (fl_row f 280 (upd (f 280) (444 + 61 * A + 3) (f 280 40))) e A b))) e A b)) (444 + 61 * A + 7) (-2000000000 : Int32)) (444 + 61 * A + 8) (2000000000 : Int32)) (444 + 61 * A + 11) (-1000000 : Int32)) (444 + 61 * A + 12) (-1 : Int32)) (444 + 61 * A + 16) (-1 : Int32)), l)) rfl rfl (fl_bo rfl) rfl ?_
  refine fl_Tq.stp (pc' := 210) (lv' := [some (.inr (.inr (.inl (76, 277)))), some (.inl a), some (.inl b), some (.inl c), some (.inl e), some (.inl o)]) (st' := [.inl e, .inr (.inr (.inl (76, 277)))]) (m' := (fl_row f 280 (upd (upd (upd (upd (upd (upd (upd (upd (f 280) (444 + 61 * A + 3) (f 280 40)) (444 + 61 * A + 1) (r_chargeAt_v (fl_row f 280 (upd (f 280) (444 + 61 * A + 3) (f 280 40))) e A b)) (444 + 61 * A + 4) (r_chargeAt_v (fl_row f 280 (upd (upd (f 280) (444 + 61 * A + 3) (f 280 40)) (444 + 61 * A + 1) (r_chargeAt_v (fl_row f 280 (upd (f 280) (444 + 61 * A + 3) (f 280 40))) e A b))) e A b)) (444 + 61 * A + 7) (-2000000000 : Int32)) (444 + 61 * A + 8) (2000000000 : Int32)) (444 + 61 * A + 11) (-1000000 : Int32)) (444 + 61 * A + 12) (-1 : Int32)) (444 + 61 * A + 16) (-1 : Int32)), l)) rfl rfl (fl_bo rfl) rfl ?_
  refine fl_Tq.cB (c := (10 : Int32)) rfl (by decide +kernel) (fl_bo rfl) ?_
  refine fl_Tq.cI (c := (1 : Int32)) rfl (by decide +kernel) (fl_bo rfl) ?_
  refine fl_Tq.cal rfl rfl (fl_bo rfl) rfl ?_
  refine t2_let (C := A) (W := 10) (m' := (fl_row f 280 (upd (upd (upd (upd (upd (upd (upd (upd (upd (f 280) (444 + 61 * A + 3) (f 280 40)) (444 + 61 * A + 1) (r_chargeAt_v (fl_row f 280 (upd (f 280) (444 + 61 * A + 3) (f 280 40))) e A b)) (444 + 61 * A + 4) (r_chargeAt_v (fl_row f 280 (upd (upd (f 280) (444 + 61 * A + 3) (f 280 40)) (444 + 61 * A + 1) (r_chargeAt_v (fl_row f 280 (upd (f 280) (444 + 61 * A + 3) (f 280 40))) e A b))) e A b)) (444 + 61 * A + 7) (-2000000000 : Int32)) (444 + 61 * A + 8) (2000000000 : Int32)) (444 + 61 * A + 11) (-1000000 : Int32)) (444 + 61 * A + 12) (-1 : Int32)) (444 + 61 * A + 16) (-1 : Int32)) (444 + 61 * A + 10) (1 : Int32)), l)) hA (by decide +kernel) hA1 (by decide) (t2_upr) ?_
  show fl_Tq _ 243 216 [some (.inr (.inr (.inl (76, 277)))), some (.inl a), some (.inl b), some (.inl c), some (.inl e), some (.inl o)] [] (fl_row f 280 (upd (upd (upd (upd (upd (upd (upd (upd (upd (f 280) (444 + 61 * A + 3) (f 280 40)) (444 + 61 * A + 1) (r_chargeAt_v (fl_row f 280 (upd (f 280) (444 + 61 * A + 3) (f 280 40))) e A b)) (444 + 61 * A + 4) (r_chargeAt_v (fl_row f 280 (upd (upd (f 280) (444 + 61 * A + 3) (f 280 40)) (444 + 61 * A + 1) (r_chargeAt_v (fl_row f 280 (upd (f 280) (444 + 61 * A + 3) (f 280 40))) e A b))) e A b)) (444 + 61 * A + 7) (-2000000000 : Int32)) (444 + 61 * A + 8) (2000000000 : Int32)) (444 + 61 * A + 11) (-1000000 : Int32)) (444 + 61 * A + 12) (-1 : Int32)) (444 + 61 * A + 16) (-1 : Int32)) (444 + 61 * A + 10) (1 : Int32)), l) _
  refine fl_Tq.stp (pc' := 217) (lv' := [some (.inr (.inr (.inl (76, 277)))), some (.inl a), some (.inl b), some (.inl c), some (.inl e), some (.inl o)]) (st' := [.inr (.inr (.inl (76, 277)))]) (m' := (fl_row f 280 (upd (upd (upd (upd (upd (upd (upd (upd (upd (f 280) (444 + 61 * A + 3) (f 280 40)) (444 + 61 * A + 1) (r_chargeAt_v (fl_row f 280 (upd (f 280) (444 + 61 * A + 3) (f 280 40))) e A b)) (444 + 61 * A + 4) (r_chargeAt_v (fl_row f 280 (upd (upd (f 280) (444 + 61 * A + 3) (f 280 40)) (444 + 61 * A + 1) (r_chargeAt_v (fl_row f 280 (upd (f 280) (444 + 61 * A + 3) (f 280 40))) e A b))) e A b)) (444 + 61 * A + 7) (-2000000000 : Int32)) (444 + 61 * A + 8) (2000000000 : Int32)) (444 + 61 * A + 11) (-1000000 : Int32)) (444 + 61 * A + 12) (-1 : Int32)) (444 + 61 * A + 16) (-1 : Int32)) (444 + 61 * A + 10) (1 : Int32)), l)) rfl rfl (fl_bo rfl) rfl ?_
  refine fl_Tq.stp (pc' := 219) (lv' := [some (.inr (.inr (.inl (76, 277)))), some (.inl a), some (.inl b), some (.inl c), some (.inl e), some (.inl o)]) (st' := [.inl e, .inr (.inr (.inl (76, 277)))]) (m' := (fl_row f 280 (upd (upd (upd (upd (upd (upd (upd (upd (upd (f 280) (444 + 61 * A + 3) (f 280 40)) (444 + 61 * A + 1) (r_chargeAt_v (fl_row f 280 (upd (f 280) (444 + 61 * A + 3) (f 280 40))) e A b)) (444 + 61 * A + 4) (r_chargeAt_v (fl_row f 280 (upd (upd (f 280) (444 + 61 * A + 3) (f 280 40)) (444 + 61 * A + 1) (r_chargeAt_v (fl_row f 280 (upd (f 280) (444 + 61 * A + 3) (f 280 40))) e A b))) e A b)) (444 + 61 * A + 7) (-2000000000 : Int32)) (444 + 61 * A + 8) (2000000000 : Int32)) (444 + 61 * A + 11) (-1000000 : Int32)) (444 + 61 * A + 12) (-1 : Int32)) (444 + 61 * A + 16) (-1 : Int32)) (444 + 61 * A + 10) (1 : Int32)), l)) rfl rfl (fl_bo rfl) rfl ?_
  refine fl_Tq.cB (c := (17 : Int32)) rfl (by decide +kernel) (fl_bo rfl) ?_
  refine fl_Tq.stp (pc' := 222) (lv' := [some (.inr (.inr (.inl (76, 277)))), some (.inl a), some (.inl b), some (.inl c), some (.inl e), some (.inl o)]) (st' := [.inr (.inr (.inl (76, 277))), .inl (17 : Int32), .inl e, .inr (.inr (.inl (76, 277)))]) (m' := (fl_row f 280 (upd (upd (upd (upd (upd (upd (upd (upd (upd (f 280) (444 + 61 * A + 3) (f 280 40)) (444 + 61 * A + 1) (r_chargeAt_v (fl_row f 280 (upd (f 280) (444 + 61 * A + 3) (f 280 40))) e A b)) (444 + 61 * A + 4) (r_chargeAt_v (fl_row f 280 (upd (upd (f 280) (444 + 61 * A + 3) (f 280 40)) (444 + 61 * A + 1) (r_chargeAt_v (fl_row f 280 (upd (f 280) (444 + 61 * A + 3) (f 280 40))) e A b))) e A b)) (444 + 61 * A + 7) (-2000000000 : Int32)) (444 + 61 * A + 8) (2000000000 : Int32)) (444 + 61 * A + 11) (-1000000 : Int32)) (444 + 61 * A + 12) (-1 : Int32)) (444 + 61 * A + 16) (-1 : Int32)) (444 + 61 * A + 10) (1 : Int32)), l)) rfl rfl (fl_bo rfl) rfl ?_
  refine fl_Tq.stp (pc' := 224) (lv' := [some (.inr (.inr (.inl (76, 277)))), some (.inl a), some (.inl b), some (.inl c), some (.inl e), some (.inl o)]) (st' := [.inl e, .inr (.inr (.inl (76, 277))), .inl (17 : Int32), .inl e, .inr (.inr (.inl (76, 277)))]) (m' := (fl_row f 280 (upd (upd (upd (upd (upd (upd (upd (upd (upd (f 280) (444 + 61 * A + 3) (f 280 40)) (444 + 61 * A + 1) (r_chargeAt_v (fl_row f 280 (upd (f 280) (444 + 61 * A + 3) (f 280 40))) e A b)) (444 + 61 * A + 4) (r_chargeAt_v (fl_row f 280 (upd (upd (f 280) (444 + 61 * A + 3) (f 280 40)) (444 + 61 * A + 1) (r_chargeAt_v (fl_row f 280 (upd (f 280) (444 + 61 * A + 3) (f 280 40))) e A b))) e A b)) (444 + 61 * A + 7) (-2000000000 : Int32)) (444 + 61 * A + 8) (2000000000 : Int32)) (444 + 61 * A + 11) (-1000000 : Int32)) (444 + 61 * A + 12) (-1 : Int32)) (444 + 61 * A + 16) (-1 : Int32)) (444 + 61 * A + 10) (1 : Int32)), l)) rfl rfl (fl_bo rfl) rfl ?_
  exact k
theorem y_cell_F {L : Nat} {xs : Nat → Int32} {f : t2_F} {l : t2_L} {Q : Option fl_V → fl_M → Prop} {a b c e o v : Int32} {A : Nat} (hA : e.toInt = (A : Int)) (hA1 : A < 16) (k : Q (some (.inl e)) (fl_row f 280 (upd (f 280) (444 + 61 * A + 17) v), l)) : fl_Tq (pw_P L xs) 243 227 [some (.inr (.inr (.inl (76, 277)))), some (.inl a), some (.inl b), some (.inl c), some (.inl e), some (.inl o)] [.inl v, .inl (17 : Int32), .inl e, .inr (.inr (.inl (76, 277)))] (f, l) Q := by
  refine fl_Tq.cal rfl rfl (fl_bo rfl) rfl ?_
  refine t2_let (C := A) (W := 17) (m' := (fl_row f 280 (upd (f 280) (444 + 61 * A + 17) v), l)) hA (by decide +kernel) hA1 (by decide) (t2_upn rfl) ?_
  show fl_Tq _ 243 230 [some (.inr (.inr (.inl (76, 277)))), some (.inl a), some (.inl b), some (.inl c), some (.inl e), some (.inl o)] [] (fl_row f 280 (upd (f 280) (444 + 61 * A + 17) v), l) _
  refine fl_Tq.stp (pc' := 232) (lv' := [some (.inr (.inr (.inl (76, 277)))), some (.inl a), some (.inl b), some (.inl c), some (.inl e), some (.inl o)]) (st' := [.inl e]) (m' := (fl_row f 280 (upd (f 280) (444 + 61 * A + 17) v), l)) rfl rfl (fl_bo rfl) rfl ?_
  exact fl_Tq.ret rfl rfl rfl k
theorem y_long_A {L : Nat} {xs : Nat → Int32} {f : t2_F} {l : t2_L} {Q : Option fl_V → fl_M → Prop}   (k : fl_Tq (pw_P L xs) 265 4 [some (.inr (.inr (.inl (76, 277)))), some (.inl (0 : Int32)), some (.inl (0 : Int32))] [] (f, l) Q) : fl_Tq (pw_P L xs) 265 0 [some (.inr (.inr (.inl (76, 277)))), none, none] [] (f, l) Q := by
  refine fl_Tq.cI (c := (0 : Int32)) rfl (by decide +kernel) (fl_bo rfl) ?_
  refine fl_Tq.stp (pc' := 2) (lv' := [some (.inr (.inr (.inl (76, 277)))), some (.inl (0 : Int32)), none]) (st' := []) (m' := (f, l)) rfl rfl (fl_bo rfl) rfl ?_
  refine fl_Tq.cI (c := (0 : Int32)) rfl (by decide +kernel) (fl_bo rfl) ?_
  refine fl_Tq.stp (pc' := 4) (lv' := [some (.inr (.inr (.inl (76, 277)))), some (.inl (0 : Int32)), some (.inl (0 : Int32))]) (st' := []) (m' := (f, l)) rfl rfl (fl_bo rfl) rfl ?_
  exact k
theorem y_long_B {L : Nat} {xs : Nat → Int32} {f : t2_F} {l : t2_L} {Q : Option fl_V → fl_M → Prop} {o : Int32} {j : Nat} (hj : j < 24) (hk : (Int32.ofNat j).toInt < (f 280 19).toInt) (k : fl_Tq (pw_P L xs) 265 4 [some (.inr (.inr (.inl (76, 277)))), some (.inl (o + (f 280 ((119 + (2 * j)) + 1)))), some (.inl ((Int32.ofNat j) + (1 : Int32)))] [] (f, l) Q) : fl_Tq (pw_P L xs) 265 4 [some (.inr (.inr (.inl (76, 277)))), some (.inl o), some (.inl (Int32.ofNat j))] [] (f, l) Q := by
  refine fl_Tq.stp (pc' := 5) (lv' := [some (.inr (.inr (.inl (76, 277)))), some (.inl o), some (.inl (Int32.ofNat j))]) (st' := [.inl (Int32.ofNat j)]) (m' := (f, l)) rfl rfl (fl_bo rfl) rfl ?_
  refine fl_Tq.stp (pc' := 6) (lv' := [some (.inr (.inr (.inl (76, 277)))), some (.inl o), some (.inl (Int32.ofNat j))]) (st' := [.inr (.inr (.inl (76, 277))), .inl (Int32.ofNat j)]) (m' := (f, l)) rfl rfl (fl_bo rfl) rfl ?_
  refine fl_Tq.stp (pc' := 9) (lv' := [some (.inr (.inr (.inl (76, 277)))), some (.inl o), some (.inl (Int32.ofNat j))]) (st' := [.inr (.inr (.inl (79, 280))), .inl (Int32.ofNat j)]) (m' := (f, l)) rfl rfl (fl_bo rfl) rfl ?_
  refine fl_Tq.cB (c := (19 : Int32)) rfl (by decide +kernel) (fl_bo rfl) ?_
  refine fl_Tq.ldV (p := 280) (τ := 79) (n := 29780) (z := (0, 0, 0)) (k := 19) (v := f 280 19) rfl (fl_bo rfl) rfl (by decide +kernel) (by decide) rfl ?_
  refine fl_Tq.jf rfl (fl_bo rfl) (c2_ge_f hk) rfl ?_
  refine fl_Tq.stp (pc' := 16) (lv' := [some (.inr (.inr (.inl (76, 277)))), some (.inl o), some (.inl (Int32.ofNat j))]) (st' := [.inl o]) (m' := (f, l)) rfl rfl (fl_bo rfl) rfl ?_
  refine fl_Tq.stp (pc' := 17) (lv' := [some (.inr (.inr (.inl (76, 277)))), some (.inl o), some (.inl (Int32.ofNat j))]) (st' := [.inr (.inr (.inl (76, 277))), .inl o]) (m' := (f, l)) rfl rfl (fl_bo rfl) rfl ?_
  refine fl_Tq.stp (pc' := 20) (lv' := [some (.inr (.inr (.inl (76, 277)))), some (.inl o), some (.inl (Int32.ofNat j))]) (st' := [.inr (.inr (.inl (79, 280))), .inl o]) (m' := (f, l)) rfl rfl (fl_bo rfl) rfl ?_
  refine fl_Tq.cB (c := (119 : Int32)) rfl (by decide +kernel) (fl_bo rfl) ?_
  refine fl_Tq.cI (c := (2 : Int32)) rfl (by decide +kernel) (fl_bo rfl) ?_
  refine fl_Tq.stp (pc' := 24) (lv' := [some (.inr (.inr (.inl (76, 277)))), some (.inl o), some (.inl (Int32.ofNat j))]) (st' := [.inl (Int32.ofNat j), .inl (2 : Int32), .inl (119 : Int32), .inr (.inr (.inl (79, 280))), .inl o]) (m' := (f, l)) rfl rfl (fl_bo rfl) rfl ?_
  refine fl_Tq.stp (pc' := 25) (lv' := [some (.inr (.inr (.inl (76, 277)))), some (.inl o), some (.inl (Int32.ofNat j))]) (st' := [.inl ((2 : Int32) * (Int32.ofNat j)), .inl (119 : Int32), .inr (.inr (.inl (79, 280))), .inl o]) (m' := (f, l)) rfl rfl (fl_bo rfl) rfl ?_
  refine fl_Tq.stp (pc' := 26) (lv' := [some (.inr (.inr (.inl (76, 277)))), some (.inl o), some (.inl (Int32.ofNat j))]) (st' := [.inl ((119 : Int32) + ((2 : Int32) * (Int32.ofNat j))), .inr (.inr (.inl (79, 280))), .inl o]) (m' := (f, l)) rfl rfl (fl_bo rfl) rfl ?_
  refine fl_Tq.cI (c := (1 : Int32)) rfl (by decide +kernel) (fl_bo rfl) ?_
  refine fl_Tq.stp (pc' := 28) (lv' := [some (.inr (.inr (.inl (76, 277)))), some (.inl o), some (.inl (Int32.ofNat j))]) (st' := [.inl (((119 : Int32) + ((2 : Int32) * (Int32.ofNat j))) + (1 : Int32)), .inr (.inr (.inl (79, 280))), .inl o]) (m' := (f, l)) rfl rfl (fl_bo rfl) rfl ?_
  refine fl_Tq.ldV (p := 280) (τ := 79) (n := 29780) (z := (0, 0, 0)) (k := (119 + (2 * j)) + 1) (v := f 280 ((119 + (2 * j)) + 1)) rfl (fl_bo rfl) rfl (t2_ia (t2_ia (by decide +kernel) (t2_im (by decide +kernel) (at_ofN (by omega)) (by omega)) (by omega)) (by decide +kernel) (by omega)) (by omega) rfl ?_
  refine fl_Tq.stp (pc' := 30) (lv' := [some (.inr (.inr (.inl (76, 277)))), some (.inl o), some (.inl (Int32.ofNat j))]) (st' := [.inl (o + (f 280 ((119 + (2 * j)) + 1)))]) (m' := (f, l)) rfl rfl (fl_bo rfl) rfl ?_
  refine fl_Tq.stp (pc' := 31) (lv' := [some (.inr (.inr (.inl (76, 277)))), some (.inl (o + (f 280 ((119 + (2 * j)) + 1)))), some (.inl (Int32.ofNat j))]) (st' := []) (m' := (f, l)) rfl rfl (fl_bo rfl) rfl ?_
  refine fl_Tq.stp (pc' := 34) (lv' := [some (.inr (.inr (.inl (76, 277)))), some (.inl (o + (f 280 ((119 + (2 * j)) + 1)))), some (.inl ((Int32.ofNat j) + (1 : Int32)))]) (st' := []) (m' := (f, l)) rfl rfl (fl_bo rfl) rfl ?_
  refine fl_Tq.stp (pc' := 4) (lv' := [some (.inr (.inr (.inl (76, 277)))), some (.inl (o + (f 280 ((119 + (2 * j)) + 1)))), some (.inl ((Int32.ofNat j) + (1 : Int32)))]) (st' := []) (m' := (f, l)) rfl rfl (fl_bo rfl) rfl ?_
  exact k
theorem y_long_C {L : Nat} {xs : Nat → Int32} {f : t2_F} {l : t2_L} {Q : Option fl_V → fl_M → Prop} {o : Int32} {j : Nat} (hk : ¬ ((Int32.ofNat j).toInt < (f 280 19).toInt)) (k : Q (some (.inl o)) (f, l)) : fl_Tq (pw_P L xs) 265 4 [some (.inr (.inr (.inl (76, 277)))), some (.inl o), some (.inl (Int32.ofNat j))] [] (f, l) Q := by
  refine fl_Tq.stp (pc' := 5) (lv' := [some (.inr (.inr (.inl (76, 277)))), some (.inl o), some (.inl (Int32.ofNat j))]) (st' := [.inl (Int32.ofNat j)]) (m' := (f, l)) rfl rfl (fl_bo rfl) rfl ?_
  refine fl_Tq.stp (pc' := 6) (lv' := [some (.inr (.inr (.inl (76, 277)))), some (.inl o), some (.inl (Int32.ofNat j))]) (st' := [.inr (.inr (.inl (76, 277))), .inl (Int32.ofNat j)]) (m' := (f, l)) rfl rfl (fl_bo rfl) rfl ?_
  refine fl_Tq.stp (pc' := 9) (lv' := [some (.inr (.inr (.inl (76, 277)))), some (.inl o), some (.inl (Int32.ofNat j))]) (st' := [.inr (.inr (.inl (79, 280))), .inl (Int32.ofNat j)]) (m' := (f, l)) rfl rfl (fl_bo rfl) rfl ?_
  refine fl_Tq.cB (c := (19 : Int32)) rfl (by decide +kernel) (fl_bo rfl) ?_
  refine fl_Tq.ldV (p := 280) (τ := 79) (n := 29780) (z := (0, 0, 0)) (k := 19) (v := f 280 19) rfl (fl_bo rfl) rfl (by decide +kernel) (by decide) rfl ?_
  refine fl_Tq.jt rfl (fl_bo rfl) (c2_ge_t hk) rfl ?_
  refine fl_Tq.stp (pc' := 38) (lv' := [some (.inr (.inr (.inl (76, 277)))), some (.inl o), some (.inl (Int32.ofNat j))]) (st' := [.inl o]) (m' := (f, l)) rfl rfl (fl_bo rfl) rfl ?_
  exact fl_Tq.ret rfl rfl rfl k

end

/-! 94.60.mutp.lean.txt -/
section
/-! ===== what is told changes: pure ===== -/
section C0MUTP
variable {fc fr : t2_F} {v a b c d e : Int32} {k n C : Nat}
/-- all but what is told stays -/
theorem c0_I.gt {F G : t2_F} (h : c0_I fc fr) (P : ∀ p : Nat, 1 ≤ p → p < 91 → p ≠ 3 → (p < 5 ∨ 9 < p) → F p = fc p) (W : ∀ w : Nat, ((2 ≤ w ∧ w < 17) ∨ (20 ≤ w ∧ w < 64) ∨ (167 ≤ w ∧ w < 315) ∨ 339 ≤ w) → G 280 w = fr 280 w) (gt' : c0_GT F G) (o3 : ∀ k : Nat, k < 3 → t2_how (G 280 (64 + k))) (o4 : (0 ≤ (G 280 17).toInt ∧ (G 280 17).toInt ≤ 6) ∧ ∀ k : Nat, k < 6 → 0 ≤ (G 280 (67 + 2 * k + 1)).toInt)
    (o5 : (0 ≤ (G 280 18).toInt ∧ (G 280 18).toInt ≤ 8) ∧ (∀ k : Nat, k < 8 → 0 ≤ (G 280 ((79 + (5 * k)) + 3)).toInt ∧ (G 280 ((79 + (5 * k)) + 3)).toInt ≤ 29) ∧ ∀ k : Nat, (k : Int) < (G 280 18).toInt → t2_lo (G 280 ((79 + (5 * k)) + 3)).toInt.toNat ≤ (G 280 ((79 + (5 * k)) + 4)).toInt ∧ (G 280 ((79 + (5 * k)) + 4)).toInt ≤ t2_hi (G 280 ((79 + (5 * k)) + 3)).toInt.toNat)
    (o6 : (0 ≤ (G 280 19).toInt ∧ (G 280 19).toInt ≤ 24) ∧ ∀ k : Nat, (k : Int) < (G 280 19).toInt → (-99999 ≤ (G 280 (119 + 2 * k)).toInt ∧ (G 280 (119 + 2 * k)).toInt ≤ 99999) ∧ (1 ≤ (G 280 (119 + 2 * k + 1)).toInt ∧ (G 280 (119 + 2 * k + 1)).toInt ≤ 99)) : c0_I F G := by
  have hh := h
  obtain ⟨-, -, ⟨gt, gw, tr, gm⟩, cl, ok⟩ := h
  refine hh.gx (fun p hp => P p (by omega) (by omega) (by omega) (by omega)) (fun w hw => W w (by omega)) ⟨gt', gw.congr (P _ (by decide) (by decide) (by decide) (by decide)) (P _ (by decide) (by decide) (by decide) (by decide)) (P _ (by decide) (by decide) (by decide) (by decide)) (P _ (by decide) (by decide) (by decide) (by decide)) (P _ (by decide) (by decide) (by decide) (by decide)) (fun w hw => W w (by omega)), tr.congr (P _ (by decide) (by decide) (by decide) (by decide)) (P _ (by decide) (by decide) (by decide) (by decide)) (fun w hw => W w (by omega)), gm.congr (fun p hp => P p (by omega) (by omega) (by omega) (by omega)) (fun w hw => W w (by omega))⟩ ⟨fun k hk => by rw [W _ (by omega)]; exact ok.s hk, ?_, o3, o4, o5, o6, ?_, fun C hC => ?_⟩
  · rw [W 5 (by decide), W 4 (by decide), W 2 (by decide), W 7 (by decide)]
    exact ok.2.1
  · rw [W 16 (by decide), W 20 (by decide), W 21 (by decide)]
    exact ok.2.2.2.2.2.2.1
  · rw [W 2 (by decide)] at hC
    exact (ok.2.2.2.2.2.2.2 C hC).congr (fun w hw => W _ (by omega)) (by rw [W 7 (by decide)]; exact Int.le_refl _)
theorem c0_I.stuck (h : c0_I fc fr) (hk : k < 3) (hv : t2_how v) : c0_I (fl_row fc 5 (upd (fc 5) k v)) (fl_row fr 280 (upd (fr 280) (64 + k) v)) := by
  have hh := h
  obtain ⟨-, -, ⟨⟨rk, rz, rr, pr, pc, pw⟩, -⟩, -, ok⟩ := h
  have n19 := ok.2.2.2.2.2.1.1
  generalize hF : fl_row fc 5 (upd (fc 5) k v) = F
  generalize hG : fl_row fr 280 (upd (fr 280) (64 + k) v) = G
  have P : ∀ p : Nat, p ≠ 5 → F p = fc p := fun p hp => by rw [← hF, fl_row_ne hp]
  have W : ∀ w : Nat, w ≠ 64 + k → G 280 w = fr 280 w := fun w hw => by rw [← hG, fl_row_self, upd_ne hw]
  have e5 : F 5 = upd (fc 5) k v := by rw [← hF, fl_row_self]
  have ek : G 280 (64 + k) = v := by rw [← hG, fl_row_self, upd_self]
  refine hh.gt (fun p _ _ _ _ => P p (by omega)) (fun w hw => W w (by omega)) ⟨fun j hj => ?_, rz.congr (P _ (by decide)) (P _ (by decide)) (W _ (by omega)) (fun k hk => W _ (by omega)), ?_, fun j hj => by rw [P 6 (by decide), W _ (by omega)]; exact pr j hj, by rw [P 3 (by decide), W 19 (by omega)]; exact pc, fun j hj => ?_⟩ (fun j hj => ?_) ?_ ?_ ?_
  · rw [e5]
    by_cases e : j = k
    · subst e
      rw [upd_self, ek]
    · rw [upd_ne e, W _ (by omega)]
      exact rk j hj
  · obtain ⟨a, b, d⟩ := rr
    unfold c0_Rr
    rw [P 3 (by decide), P 9 (by decide), W 18 (by omega)]
    exact ⟨a, b, fun j hj => by rw [W _ (by omega)]; exact d j hj⟩
  · rw [W 19 (by omega)] at hj
    rw [P 8 (by decide), W _ (by omega)]
    exact pw j hj
  · by_cases e : j = k
    · subst e
      rw [ek]
      exact hv
    · rw [W _ (by omega)]
      exact ok.2.2.1 j hj
  · rw [W 17 (by omega)]
    exact ⟨ok.2.2.2.1.1, fun j hj => by rw [W _ (by omega)]; exact ok.2.2.2.1.2 j hj⟩
  · rw [W 18 (by omega)]
    exact ⟨ok.2.2.2.2.1.1, fun j hj => by rw [W _ (by omega)]; exact ok.2.2.2.2.1.2.1 j hj, fun j hj => by rw [W _ (by omega), W _ (by omega)]; exact ok.2.2.2.2.1.2.2 j hj⟩
  · rw [W 19 (by omega)]
    exact ⟨ok.2.2.2.2.2.1.1, fun j hj => by rw [W _ (by omega), W _ (by omega)]; exact ok.2.2.2.2.2.1.2 j hj⟩
/-- a ZONE more -/
theorem c0_I.zone (h : c0_I fc fr) (hn : (fr 280 17).toInt = n) (h6 : n < 6) (hb : 0 ≤ b.toInt) : c0_I (c0_addZone_m fc a b) (fl_row fr 280 (upd (upd (upd (fr 280) (67 + 2 * n) a) (67 + 2 * n + 1) b) 17 (fr 280 17 + (1 : Int32)))) ∧ fc 3 6 = fr 280 17 := by
  have hh := h
  obtain ⟨-, -, ⟨⟨rk, ⟨z1, z2, z3⟩, rr, pr, pc, pw⟩, -⟩, -, ok⟩ := h
  refine ⟨?_, z1⟩
  have c1 : (1 : Int32).toInt = 1 := by decide +kernel
  have n19 := ok.2.2.2.2.2.1.1
  have n36 : (fc 3 6).toInt.toNat = n := by rw [z1]; omega
  have e1 : (fr 280 17 + (1 : Int32)).toInt = n + 1 := by rw [at_add32 (by omega) (by omega)]; omega
  generalize hF : c0_addZone_m fc a b = F
  generalize hG : fl_row fr 280 (upd (upd (upd (fr 280) (67 + 2 * n) a) (67 + 2 * n + 1) b) 17 (fr 280 17 + (1 : Int32))) = G
  have P : ∀ p : Nat, p ≠ 7 → p ≠ 3 → F p = fc p := fun p h7 h3 => by rw [← hF]; exact c0_addZone_fr h7 h3
  have F3 : F 3 = upd (fc 3) 6 (fc 3 6 + (1 : Int32)) := by rw [← hF]; unfold c0_addZone_m; rw [fl_row_self]
  have F7 : F 7 = upd (upd (fc 7) (n * 2) a) (n * 2 + 1) b := by rw [← hF]; unfold c0_addZone_m; rw [fl_row_ne (by decide), fl_row_self, n36]
  have W : ∀ w : Nat, w ≠ 17 → w ≠ 67 + 2 * n → w ≠ 67 + 2 * n + 1 → G 280 w = fr 280 w := fun w h1 h2 h3 => by rw [← hG, fl_row_self, upd_ne h1, upd_ne h3, upd_ne h2]
  have w17 : G 280 17 = fr 280 17 + (1 : Int32) := by rw [← hG, fl_row_self, upd_self]
  have wa : G 280 (67 + 2 * n) = a := by rw [← hG, fl_row_self, upd_ne (by omega), upd_ne (by omega), upd_self]
  have wb : G 280 (67 + 2 * n + 1) = b := by rw [← hG, fl_row_self, upd_ne (by omega), upd_self]
  have zb : ∀ j : Nat, j < 6 → 0 ≤ (G 280 (67 + 2 * j + 1)).toInt := fun j hj => by
    by_cases e : j = n
    · subst e
      rw [wb]
      exact hb
    · rw [W _ (by omega) (by omega) (by omega)]
      exact z3 j hj
  refine hh.gt (fun p _ _ h3 h5 => P p (by omega) h3) (fun w hw => W w (by omega) (by omega) (by omega)) ⟨fun j hj => by rw [P 5 (by decide) (by decide), W _ (by omega) (by omega) (by omega)]; exact rk j hj, ⟨?_, fun j hj => ?_, zb⟩, ?_, fun j hj => by rw [P 6 (by decide) (by decide), W _ (by omega) (by omega) (by omega)]; exact pr j hj, by rw [F3, upd_ne (by decide), W 19 (by omega) (by omega) (by omega)]; exact pc, fun j hj => ?_⟩ (fun j hj => by rw [W _ (by omega) (by omega) (by omega)]; exact ok.2.2.1 j hj) ⟨by rw [w17, e1]; omega, zb⟩ ?_ ?_
  · rw [F3, upd_self, w17, z1]
  · rw [F7]
    by_cases e : j = n * 2 + 1
    · subst e
      rw [upd_self, show 67 + (n * 2 + 1) = 67 + 2 * n + 1 by omega, wb]
    · rw [upd_ne e]
      by_cases e2 : j = n * 2
      · subst e2
        rw [upd_self, show 67 + n * 2 = 67 + 2 * n by omega, wa]
      · rw [upd_ne e2, W _ (by omega) (by omega) (by omega)]
        exact z2 j hj
  · obtain ⟨a1, b1, d1⟩ := rr
    unfold c0_Rr
    rw [F3, upd_ne (by decide), P 9 (by decide) (by decide), W 18 (by omega) (by omega) (by omega)]
    exact ⟨a1, b1, fun j hj => by rw [W _ (by omega) (by omega) (by omega)]; exact d1 j hj⟩
  · rw [W 19 (by omega) (by omega) (by omega)] at hj
    rw [P 8 (by decide) (by decide), W _ (by omega) (by omega) (by omega)]
    exact pw j hj
  · rw [W 18 (by omega) (by omega) (by omega)]
    exact ⟨ok.2.2.2.2.1.1, fun j hj => by rw [W _ (by omega) (by omega) (by omega)]; exact ok.2.2.2.2.1.2.1 j hj, fun j hj => by rw [W _ (by omega) (by omega) (by omega), W _ (by omega) (by omega) (by omega)]; exact ok.2.2.2.2.1.2.2 j hj⟩
  · rw [W 19 (by omega) (by omega) (by omega)]
    exact ⟨ok.2.2.2.2.2.1.1, fun j hj => by rw [W _ (by omega) (by omega) (by omega), W _ (by omega) (by omega) (by omega)]; exact ok.2.2.2.2.2.1.2 j hj⟩
/-- a PIECE more -/
theorem c0_I.piece (h : c0_I fc fr) (hn : (fr 280 19).toInt = n) (h24 : n < 24) (ha : -99999 ≤ a.toInt ∧ a.toInt ≤ 99999) (hb : 1 ≤ b.toInt ∧ b.toInt ≤ 99) : c0_I (c0_addPiece_m fc a b) (fl_row fr 280 (upd (upd (upd (fr 280) (119 + 2 * n) a) (119 + 2 * n + 1) b) 19 (fr 280 19 + (1 : Int32)))) ∧ fc 3 7 = fr 280 19 := by
  have hh := h
  obtain ⟨-, -, ⟨⟨rk, rz, rr, pr, pc, pw⟩, -⟩, -, ok⟩ := h
  refine ⟨?_, pc⟩
  have n18 := ok.2.2.2.2.1.1
  have c1 : (1 : Int32).toInt = 1 := by decide +kernel
  have n37 : (fc 3 7).toInt.toNat = n := by rw [pc]; omega
  have e1 : (fr 280 19 + (1 : Int32)).toInt = n + 1 := by rw [at_add32 (by omega) (by omega)]; omega
  generalize hF : c0_addPiece_m fc a b = F
  generalize hG : fl_row fr 280 (upd (upd (upd (fr 280) (119 + 2 * n) a) (119 + 2 * n + 1) b) 19 (fr 280 19 + (1 : Int32))) = G
  have P : ∀ p : Nat, p ≠ 8 → p ≠ 3 → F p = fc p := fun p h7 h3 => by rw [← hF]; exact c0_addPiece_fr h7 h3
  have F3 : F 3 = upd (fc 3) 7 (fc 3 7 + (1 : Int32)) := by rw [← hF]; unfold c0_addPiece_m; rw [fl_row_self]
  have F8 : F 8 = upd (upd (fc 8) (n * 2) a) (n * 2 + 1) b := by rw [← hF]; unfold c0_addPiece_m; rw [fl_row_ne (by decide), fl_row_self, n37]
  have W : ∀ w : Nat, w ≠ 19 → w ≠ 119 + 2 * n → w ≠ 119 + 2 * n + 1 → G 280 w = fr 280 w := fun w h1 h2 h3 => by rw [← hG, fl_row_self, upd_ne h1, upd_ne h3, upd_ne h2]
  have w19 : G 280 19 = fr 280 19 + (1 : Int32) := by rw [← hG, fl_row_self, upd_self]
  have wa : G 280 (119 + 2 * n) = a := by rw [← hG, fl_row_self, upd_ne (by omega), upd_ne (by omega), upd_self]
  have wb : G 280 (119 + 2 * n + 1) = b := by rw [← hG, fl_row_self, upd_ne (by omega), upd_self]
  refine hh.gt (fun p _ _ h3 h5 => P p (by omega) h3) (fun w hw => W w (by omega) (by omega) (by omega)) ⟨fun j hj => by rw [P 5 (by decide) (by decide), W _ (by omega) (by omega) (by omega)]; exact rk j hj, ?_, ?_, fun j hj => by rw [P 6 (by decide) (by decide), W _ (by omega) (by omega) (by omega)]; exact pr j hj, by rw [F3, upd_self, w19, pc], fun j hj => ?_⟩ (fun j hj => by rw [W _ (by omega) (by omega) (by omega)]; exact ok.2.2.1 j hj) ?_ ?_ ⟨by rw [w19, e1]; omega, fun j hj => ?_⟩
  · obtain ⟨z1, z2, z3⟩ := rz
    unfold c0_Rz
    rw [F3, upd_ne (by decide), P 7 (by decide) (by decide), W 17 (by omega) (by omega) (by omega)]
    exact ⟨z1, fun j hj => by rw [W _ (by omega) (by omega) (by omega)]; exact z2 j hj, fun j hj => by rw [W _ (by omega) (by omega) (by omega)]; exact z3 j hj⟩
  · obtain ⟨a1, b1, d1⟩ := rr
    unfold c0_Rr
    rw [F3, upd_ne (by decide), P 9 (by decide) (by decide), W 18 (by omega) (by omega) (by omega)]
    exact ⟨a1, b1, fun j hj => by rw [W _ (by omega) (by omega) (by omega)]; exact d1 j hj⟩
  · rw [w19, e1] at hj
    rw [F8]
    by_cases e : j = n * 2 + 1
    · subst e
      rw [upd_self, show 119 + (n * 2 + 1) = 119 + 2 * n + 1 by omega, wb]
    · rw [upd_ne e]
      by_cases e2 : j = n * 2
      · subst e2
        rw [upd_self, show 119 + n * 2 = 119 + 2 * n by omega, wa]
      · rw [upd_ne e2, W _ (by omega) (by omega) (by omega)]
        exact pw j (by omega)
  · rw [W 17 (by omega) (by omega) (by omega)]
    exact ⟨ok.2.2.2.1.1, fun j hj => by rw [W _ (by omega) (by omega) (by omega)]; exact ok.2.2.2.1.2 j hj⟩
  · rw [W 18 (by omega) (by omega) (by omega)]
    exact ⟨ok.2.2.2.2.1.1, fun j hj => by rw [W _ (by omega) (by omega) (by omega)]; exact ok.2.2.2.2.1.2.1 j hj, fun j hj => by rw [W _ (by omega) (by omega) (by omega), W _ (by omega) (by omega) (by omega)]; exact ok.2.2.2.2.1.2.2 j hj⟩
  · rw [w19, e1] at hj
    by_cases e : j = n
    · subst e
      rw [wa, wb]
      exact ⟨ha, hb⟩
    · rw [W _ (by omega) (by omega) (by omega), W _ (by omega) (by omega) (by omega)]
      exact ok.2.2.2.2.2.1.2 j (by omega)
/-- a RULE more -/
theorem c0_I.rule (h : c0_I fc fr) (hn : (fr 280 18).toInt = n) (h8 : n < 8) (hd : 0 ≤ d.toInt ∧ d.toInt ≤ 29) (he : t2_lo d.toInt.toNat ≤ e.toInt ∧ e.toInt ≤ t2_hi d.toInt.toNat) : c0_I (c0_addRule_m fc a b c d e) (fl_row fr 280 (upd (upd (upd (upd (upd (upd (fr 280) (79 + 5 * n) a) (79 + 5 * n + 1) b) (79 + 5 * n + 2) c) (79 + 5 * n + 3) d) (79 + 5 * n + 4) e) 18 (fr 280 18 + (1 : Int32)))) ∧ fc 3 8 = fr 280 18 := by
  have hh := h
  obtain ⟨-, -, ⟨⟨rk, rz, ⟨u1, u2, u3⟩, pr, pc, pw⟩, -⟩, -, ok⟩ := h
  refine ⟨?_, u1⟩
  have c1 : (1 : Int32).toInt = 1 := by decide +kernel
  have n19 := ok.2.2.2.2.2.1.1
  have n38 : (fc 3 8).toInt.toNat = n := by rw [u1]; omega
  have e1 : (fr 280 18 + (1 : Int32)).toInt = n + 1 := by rw [at_add32 (by omega) (by omega)]; omega
  generalize hF : c0_addRule_m fc a b c d e = F
  generalize hG : fl_row fr 280 (upd (upd (upd (upd (upd (upd (fr 280) (79 + 5 * n) a) (79 + 5 * n + 1) b) (79 + 5 * n + 2) c) (79 + 5 * n + 3) d) (79 + 5 * n + 4) e) 18 (fr 280 18 + (1 : Int32))) = G
  have P : ∀ p : Nat, p ≠ 9 → p ≠ 3 → F p = fc p := fun p h7 h3 => by rw [← hF]; exact c0_addRule_fr h7 h3
  have F3 : F 3 = upd (fc 3) 8 (fc 3 8 + (1 : Int32)) := by rw [← hF]; unfold c0_addRule_m; rw [fl_row_self]
  have F9 : F 9 = upd (upd (upd (upd (upd (fc 9) (n * 5) a) (n * 5 + 1) b) (n * 5 + 2) c) (n * 5 + 3) d) (n * 5 + 4) e := by rw [← hF]; unfold c0_addRule_m; rw [fl_row_ne (by decide), fl_row_self, n38]
  have W : ∀ w : Nat, w ≠ 18 → (w < 79 + 5 * n ∨ 79 + 5 * n + 5 ≤ w) → G 280 w = fr 280 w := fun w h1 h2 => by rw [← hG, fl_row_self, upd_ne h1, upd_ne (by omega), upd_ne (by omega), upd_ne (by omega), upd_ne (by omega), upd_ne (by omega)]
  have w18 : G 280 18 = fr 280 18 + (1 : Int32) := by rw [← hG, fl_row_self, upd_self]
  have w0 : G 280 (79 + 5 * n) = a := by rw [← hG, fl_row_self, upd_ne (by omega), upd_ne (by omega), upd_ne (by omega), upd_ne (by omega), upd_ne (by omega), upd_self]
  have w1 : G 280 (79 + 5 * n + 1) = b := by rw [← hG, fl_row_self, upd_ne (by omega), upd_ne (by omega), upd_ne (by omega), upd_ne (by omega), upd_self]
  have w2 : G 280 (79 + 5 * n + 2) = c := by rw [← hG, fl_row_self, upd_ne (by omega), upd_ne (by omega), upd_ne (by omega), upd_self]
  have w3 : G 280 (79 + 5 * n + 3) = d := by rw [← hG, fl_row_self, upd_ne (by omega), upd_ne (by omega), upd_self]
  have w4 : G 280 (79 + 5 * n + 4) = e := by rw [← hG, fl_row_self, upd_ne (by omega), upd_self]
  refine hh.gt (fun p _ _ h3 h5 => P p (by omega) h3) (fun w hw => W w (by omega) (by omega)) ⟨fun j hj => by rw [P 5 (by decide) (by decide), W _ (by omega) (by omega)]; exact rk j hj, ?_, ⟨by rw [F3, upd_self, w18, u1], by rw [w18, e1]; omega, fun j hj => ?_⟩, fun j hj => by rw [P 6 (by decide) (by decide), W _ (by omega) (by omega)]; exact pr j hj, by rw [F3, upd_ne (by decide), W 19 (by omega) (by omega)]; exact pc, fun j hj => ?_⟩ (fun j hj => by rw [W _ (by omega) (by omega)]; exact ok.2.2.1 j hj) ?_ ⟨by rw [w18, e1]; omega, fun j hj => ?_, fun j hj => ?_⟩ ?_
  · obtain ⟨z1, z2, z3⟩ := rz
    unfold c0_Rz
    rw [F3, upd_ne (by decide), P 7 (by decide) (by decide), W 17 (by omega) (by omega)]
    exact ⟨z1, fun j hj => by rw [W _ (by omega) (by omega)]; exact z2 j hj, fun j hj => by rw [W _ (by omega) (by omega)]; exact z3 j hj⟩
  · rw [w18, e1] at hj
    rw [F9]
    by_cases h4 : j = n * 5 + 4
    · subst h4
      rw [upd_self, show 79 + (n * 5 + 4) = 79 + 5 * n + 4 by omega, w4]
    rw [upd_ne h4]
    by_cases h3 : j = n * 5 + 3
    · subst h3
      rw [upd_self, show 79 + (n * 5 + 3) = 79 + 5 * n + 3 by omega, w3]
    rw [upd_ne h3]
    by_cases h2 : j = n * 5 + 2
    · subst h2
      rw [upd_self, show 79 + (n * 5 + 2) = 79 + 5 * n + 2 by omega, w2]
    rw [upd_ne h2]
    by_cases h1 : j = n * 5 + 1
    · subst h1
      rw [upd_self, show 79 + (n * 5 + 1) = 79 + 5 * n + 1 by omega, w1]
    rw [upd_ne h1]
    by_cases h0 : j = n * 5
    · subst h0
      rw [upd_self, show 79 + n * 5 = 79 + 5 * n by omega, w0]
    rw [upd_ne h0, W _ (by omega) (by omega)]
    exact u3 j (by omega)
  · rw [W 19 (by omega) (by omega)] at hj
    rw [P 8 (by decide) (by decide), W _ (by omega) (by omega)]
    exact pw j hj
  · rw [W 17 (by omega) (by omega)]
    exact ⟨ok.2.2.2.1.1, fun j hj => by rw [W _ (by omega) (by omega)]; exact ok.2.2.2.1.2 j hj⟩
  · by_cases q : j = n
    · subst q
      rw [w3]
      exact hd
    · rw [W _ (by omega) (by omega)]
      exact ok.2.2.2.2.1.2.1 j hj
  · rw [w18, e1] at hj
    by_cases q : j = n
    · subst q
      rw [w3, w4]
      exact he
    · rw [W _ (by omega) (by omega), W _ (by omega) (by omega)]
      exact ok.2.2.2.2.1.2.2 j (by omega)
  · rw [W 19 (by omega) (by omega)]
    exact ⟨ok.2.2.2.2.2.1.1, fun j hj => by rw [W _ (by omega) (by omega), W _ (by omega) (by omega)]; exact ok.2.2.2.2.2.1.2 j hj⟩
/-- no RULES; the reference's row is cleared -/
theorem c0_I.unrule {G : t2_F} (h : c0_I fc fr) (W : ∀ w : Nat, w ≠ 18 → (w < 79 ∨ 119 ≤ w) → G 280 w = fr 280 w) (w18 : G 280 18 = 0) (wr : ∀ w : Nat, 79 ≤ w → w < 119 → G 280 w = 0) : c0_I (fl_row fc 3 (upd (fc 3) 8 (0 : Int32))) G ∧ fc 3 8 = fr 280 18 := by
  have hh := h
  obtain ⟨-, -, ⟨⟨rk, rz, ⟨u1, u2, u3⟩, pr, pc, pw⟩, -⟩, -, ok⟩ := h
  refine ⟨?_, u1⟩
  have c0 : (0 : Int32).toInt = 0 := rfl
  have n19 := ok.2.2.2.2.2.1.1
  generalize hF : fl_row fc 3 (upd (fc 3) 8 (0 : Int32)) = F
  have P : ∀ p : Nat, p ≠ 3 → F p = fc p := fun p h3 => by rw [← hF, fl_row_ne h3]
  have F3 : F 3 = upd (fc 3) 8 (0 : Int32) := by rw [← hF, fl_row_self]
  refine hh.gt (fun p _ _ h3 h5 => P p h3) (fun w hw => W w (by omega) (by omega)) ⟨fun j hj => by rw [P 5 (by decide), W _ (by omega) (by omega)]; exact rk j hj, ?_, ⟨by rw [F3, upd_self, w18], by rw [w18, c0]; omega, fun j hj => by rw [w18, c0] at hj; omega⟩, fun j hj => by rw [P 6 (by decide), W _ (by omega) (by omega)]; exact pr j hj, by rw [F3, upd_ne (by decide), W 19 (by omega) (by omega)]; exact pc, fun j hj => ?_⟩ (fun j hj => by rw [W _ (by omega) (by omega)]; exact ok.2.2.1 j hj) ?_ ⟨by rw [w18, c0]; omega, fun j hj => by rw [wr _ (by omega) (by omega), c0]; omega, fun j hj => by rw [w18, c0] at hj; omega⟩ ?_
  · obtain ⟨z1, z2, z3⟩ := rz
    unfold c0_Rz
    rw [F3, upd_ne (by decide), P 7 (by decide), W 17 (by omega) (by omega)]
    exact ⟨z1, fun j hj => by rw [W _ (by omega) (by omega)]; exact z2 j hj, fun j hj => by rw [W _ (by omega) (by omega)]; exact z3 j hj⟩
  · rw [W 19 (by omega) (by omega)] at hj
    rw [P 8 (by decide), W _ (by omega) (by omega)]
    exact pw j hj
  · rw [W 17 (by omega) (by omega)]
    exact ⟨ok.2.2.2.1.1, fun j hj => by rw [W _ (by omega) (by omega)]; exact ok.2.2.2.1.2 j hj⟩
  · rw [W 19 (by omega) (by omega)]
    exact ⟨ok.2.2.2.2.2.1.1, fun j hj => by rw [W _ (by omega) (by omega), W _ (by omega) (by omega)]; exact ok.2.2.2.2.2.1.2 j hj⟩
/-- no PIECES -/
theorem c0_I.wipe {G : t2_F} (h : c0_I fc fr) (W : ∀ w : Nat, w ≠ 19 → (w < 119 ∨ 167 ≤ w) → G 280 w = fr 280 w) (w19 : G 280 19 = 0) : c0_I (fl_row fc 3 (upd (fc 3) 7 (0 : Int32))) G ∧ fc 3 7 = fr 280 19 := by
  have hh := h
  obtain ⟨-, -, ⟨⟨rk, rz, rr, pr, pc, pw⟩, -⟩, -, ok⟩ := h
  refine ⟨?_, pc⟩
  have n18 := ok.2.2.2.2.1.1
  have c0 : (0 : Int32).toInt = 0 := rfl
  generalize hF : fl_row fc 3 (upd (fc 3) 7 (0 : Int32)) = F
  have P : ∀ p : Nat, p ≠ 3 → F p = fc p := fun p h3 => by rw [← hF, fl_row_ne h3]
  have F3 : F 3 = upd (fc 3) 7 (0 : Int32) := by rw [← hF, fl_row_self]
  refine hh.gt (fun p _ _ h3 h5 => P p h3) (fun w hw => W w (by omega) (by omega)) ⟨fun j hj => by rw [P 5 (by decide), W _ (by omega) (by omega)]; exact rk j hj, ?_, ?_, fun j hj => by rw [P 6 (by decide), W _ (by omega) (by omega)]; exact pr j hj, by rw [F3, upd_self, w19], fun j hj => by rw [w19, c0] at hj; omega⟩ (fun j hj => by rw [W _ (by omega) (by omega)]; exact ok.2.2.1 j hj) ?_ ?_ ⟨by rw [w19, c0]; omega, fun j hj => by rw [w19, c0] at hj; omega⟩
  · obtain ⟨z1, z2, z3⟩ := rz
    unfold c0_Rz
    rw [F3, upd_ne (by decide), P 7 (by decide), W 17 (by omega) (by omega)]
    exact ⟨z1, fun j hj => by rw [W _ (by omega) (by omega)]; exact z2 j hj, fun j hj => by rw [W _ (by omega) (by omega)]; exact z3 j hj⟩
  · obtain ⟨a1, b1, d1⟩ := rr
    unfold c0_Rr
    rw [F3, upd_ne (by decide), P 9 (by decide), W 18 (by omega) (by omega)]
    exact ⟨a1, b1, fun j hj => by rw [W _ (by omega) (by omega)]; exact d1 j hj⟩
  · rw [W 17 (by omega) (by omega)]
    exact ⟨ok.2.2.2.1.1, fun j hj => by rw [W _ (by omega) (by omega)]; exact ok.2.2.2.1.2 j hj⟩
  · rw [W 18 (by omega) (by omega)]
    exact ⟨ok.2.2.2.2.1.1, fun j hj => by rw [W _ (by omega) (by omega)]; exact ok.2.2.2.2.1.2.1 j hj, fun j hj => by rw [W _ (by omega) (by omega), W _ (by omega) (by omega)]; exact ok.2.2.2.2.1.2.2 j hj⟩
end C0MUTP

end

/-! 94.61.mutc.lean.txt -/
section
/-! ===== a cell's words change: pure ===== -/
section C0MUTC
variable {fc fr F G : t2_F} {v a b c : Int32} {C A : Nat}
/-- one cell is another one, all else stays -/
theorem c0_I.cellC (h : c0_I fc fr) (hC : (C : Int) < (fr 280 2).toInt) (P : ∀ p : Nat, 1 ≤ p → p < 91 → p ≠ 18 + 4 * C → F p = fc p) (W : ∀ w : Nat, 2 ≤ w → w < 1420 → (w < 444 + 61 * C ∨ 444 + 61 * C + 61 ≤ w) → G 280 w = fr 280 w) (rc : c0_Rc F G C ∧ c0_GC F G C) (oc : t2_OC (G 280) C) : c0_I F G := by
  obtain ⟨⟨⟨g5, g6, g7, g8⟩, ⟨g9, g10, g11, g12⟩, g13, g14, g15, g16⟩, rs, ⟨gt, gw, tr, gm⟩, cl, ok⟩ := h
  have n16 := ok.2.1.2.2.1
  have P1 : F 1 = fc 1 := P 1 (by decide) (by decide) (by omega)
  have W0 : ∀ w : Nat, 2 ≤ w → w < 444 → G 280 w = fr 280 w := fun w h1 h2 => W w h1 (by omega) (by omega)
  refine ⟨⟨⟨?_, ?_, ?_, ?_⟩, ⟨?_, ?_, ?_, ?_⟩, ?_, ?_, ?_, ?_⟩, rs.congr (P _ (by decide) (by decide) (by omega)) (fun k hk => W0 _ (by omega) (by omega)), ⟨gt.congr ok.2.2.2.2.2.1.1.2 (P _ (by decide) (by decide) (by omega)) (P _ (by decide) (by decide) (by omega)) (P _ (by decide) (by decide) (by omega)) (P _ (by decide) (by decide) (by omega)) (P _ (by decide) (by decide) (by omega)) (P _ (by decide) (by decide) (by omega)) (fun w hw => W0 w (by omega) (by omega)), gw.congr (P _ (by decide) (by decide) (by omega)) (P _ (by decide) (by decide) (by omega)) (P _ (by decide) (by decide) (by omega)) (P _ (by decide) (by decide) (by omega)) (P _ (by decide) (by decide) (by omega)) (fun w hw => W0 w (by omega) (by omega)), tr.congr (P _ (by decide) (by decide) (by omega)) (P _ (by decide) (by decide) (by omega)) (fun w hw => W0 w (by omega) (by omega)), gm.congr (fun p hp => P p (by omega) (by omega) (by omega)) (fun w hw => W0 w (by omega) (by omega))⟩, fun D hD => ?_, ?_⟩
  · rw [P1, W0 2 (by decide) (by decide), g5]
  · rw [P1, W0 7 (by decide) (by decide), g6]
  · rw [P1, W0 3 (by decide) (by decide), g7]
  · rw [P1, W0 4 (by decide) (by decide), g8]
  · rw [P1, W0 5 (by decide) (by decide), g9]
  · rw [P1, W0 14 (by decide) (by decide), g10]
  · rw [P1, W0 8 (by decide) (by decide), g11]
  · rw [P1, W0 9 (by decide) (by decide), g12]
  · rw [P1, W0 10 (by decide) (by decide), g13]
  · rw [P1, W0 11 (by decide) (by decide), g14]
  · rw [P1, W0 12 (by decide) (by decide), g15]
  · rw [P1, W0 13 (by decide) (by decide), g16]
  · by_cases e : D = C
    · subst e
      exact rc
    · rw [W0 2 (by decide) (by decide)] at hD
      exact ⟨(cl D hD).1.congr (P _ (by omega) (by omega) (by omega)) (fun k hk => W _ (by omega) (by omega) (by omega)), (cl D hD).2.congr (fun j _ _ => by rw [P _ (by omega) (by omega) (by omega)]) (fun p hp => P p (by omega) (by omega) (by omega)) (fun w hw => W _ (by omega) (by omega) (by omega))⟩
  · refine ok.upd (fun w hw => W0 w (by omega) (by omega)) (fun k hk => by rw [W0 _ (by omega) (by omega)]; exact ok.s hk) (by rw [W0 5 (by decide) (by decide)]; exact ok.2.1.1) (by rw [W0 4 (by decide) (by decide)]; exact ok.2.1.2.1) (by rw [W0 7 (by decide) (by decide)]; exact ok.2.1.2.2.2) (by rw [W0 16 (by decide) (by decide), W0 20 (by decide) (by decide), W0 21 (by decide) (by decide)]; exact ok.2.2.2.2.2.2.1) (fun D hD => ?_)
    by_cases e : D = C
    · subst e
      exact oc
    · exact (ok.2.2.2.2.2.2.2 D hD).congr (fun w hw => W _ (by omega) (by omega) (by omega)) (by rw [W0 7 (by decide) (by decide)]; exact Int.le_refl _)
theorem c0_I.warm (h : c0_I fc fr) (hC : (C : Int) < (fr 280 2).toInt) : c0_I (fl_row fc (18 + 4 * C) (upd (fc (18 + 4 * C)) 6 v)) (fl_row fr 280 (upd (fr 280) (444 + 61 * C + 3) v)) := by
  obtain ⟨⟨ra, rb, ⟨r5, r6, r7⟩, r8, r9, r18⟩, gc⟩ := h.2.2.2.1 C hC
  have oc := h.2.2.2.2.2.2.2.2.2.2.2 C hC
  generalize hF : fl_row fc (18 + 4 * C) (upd (fc (18 + 4 * C)) 6 v) = F
  generalize hG : fl_row fr 280 (upd (fr 280) (444 + 61 * C + 3) v) = G
  have P : ∀ p : Nat, p ≠ 18 + 4 * C → F p = fc p := fun p hp => by rw [← hF, fl_row_ne hp]
  have Q : ∀ j : Nat, j ≠ 6 → F (18 + 4 * C) j = fc (18 + 4 * C) j := fun j hj => by rw [← hF, fl_row_self, upd_ne hj]
  have W : ∀ w : Nat, w ≠ 444 + 61 * C + 3 → G 280 w = fr 280 w := fun w hw => by rw [← hG, fl_row_self, upd_ne hw]
  have ep : r_partOf_v G 0 C = r_partOf_v fr 0 C := by
    unfold r_partOf_v
    rw [W _ (by omega), W _ (by omega)]
  refine h.cellC hC (fun p _ _ hp => P p hp) (fun w _ _ hw => W w (by omega)) ⟨⟨⟨?_, ?_, ?_⟩, ⟨?_, ?_⟩, ⟨?_, ?_, ?_⟩, ?_, ?_, ?_⟩, gc.congr (fun j _ _ => Q j (by omega)) (fun p hp => P p (by omega)) (fun w hw => W _ (by omega))⟩ (oc.congr (fun w hw => W _ (by omega)) (by rw [W 7 (by omega)]; exact Int.le_refl _))
  · rw [Q 0 (by decide), W _ (by omega)]; exact ra.1
  · rw [Q 1 (by decide), W _ (by omega)]; exact ra.2.1
  · rw [Q 2 (by decide), W _ (by omega)]; exact ra.2.2
  · rw [Q 3 (by decide), ep]; exact rb.1
  · rw [Q 4 (by decide), ep]; exact rb.2
  · rw [Q 5 (by decide), W _ (by omega)]; exact r5
  · rw [← hF, ← hG, fl_row_self, fl_row_self, upd_self, upd_self]
  · rw [Q 7 (by decide), W _ (by omega)]; exact r7
  · rw [Q 8 (by decide), W _ (by omega)]; exact r8
  · rw [Q 9 (by decide), W _ (by omega)]; exact r9
  · rw [Q 18 (by decide), W _ (by omega)]; exact r18
theorem c0_I.charge (h : c0_I fc fr) (hC : (C : Int) < (fr 280 2).toInt) (hv : 0 ≤ v.toInt ∧ v.toInt ≤ 3600 * (fr 280 (444 + 61 * C + 0)).toInt) : c0_I (c0_putCharge_m fc C v) (fl_row fr 280 (upd (fr 280) (444 + 61 * C + 1) v)) := by
  obtain ⟨rc, gc⟩ := h.2.2.2.1 C hC
  have oc := h.2.2.2.2.2.2.2.2.2.2.2 C hC
  have cap : t2_cap (fr 280 (444 + 61 * C + 0)) := oc.1.1
  have c36 : (3600 : Int32).toInt = 3600 := by decide +kernel
  have e0 : fc (18 + 4 * C) 0 = fr 280 (444 + 61 * C + 0) := rc.1.1
  have hcap : 100 ≤ (fr 280 (444 + 61 * C + 0)).toInt ∧ (fr 280 (444 + 61 * C + 0)).toInt ≤ 9999 := cap
  have em : (fc (18 + 4 * C) 0 * (3600 : Int32)).toInt = (fr 280 (444 + 61 * C + 0)).toInt * 3600 := by rw [e0, at_mul32 (by rw [c36]; omega) (by rw [c36]; omega), c36]
  have eh : t2_heldTo_v v (0 : Int32) (fc (18 + 4 * C) 0 * (3600 : Int32)) = v := t2_held_id hv.1 (by omega)
  generalize hF : c0_putCharge_m fc C v = F
  generalize hG : fl_row fr 280 (upd (fr 280) (444 + 61 * C + 1) v) = G
  have P : ∀ p : Nat, p ≠ 18 + 4 * C → F p = fc p := fun p hp => by rw [← hF]; unfold c0_putCharge_m; rw [fl_row_ne hp]
  have Q : ∀ j : Nat, j ≠ 2 → j ≠ 3 → j ≠ 4 → F (18 + 4 * C) j = fc (18 + 4 * C) j := fun j h2 h3 h4 => by rw [← hF]; unfold c0_putCharge_m; rw [fl_row_self, upd_ne h4, upd_ne h3, upd_ne h2]
  have q2 : F (18 + 4 * C) 2 = v := by rw [← hF]; unfold c0_putCharge_m; rw [fl_row_self, upd_ne (by decide), upd_ne (by decide), upd_self, eh]
  have q3 : F (18 + 4 * C) 3 = t2_partOf_v v (fc (18 + 4 * C) 0 * (3600 : Int32)) := by rw [← hF]; unfold c0_putCharge_m; rw [fl_row_self, upd_ne (by decide), upd_self, eh]
  have q4 : F (18 + 4 * C) 4 = t2_rb (F (18 + 4 * C) 3) := by rw [q3, ← hF]; unfold c0_putCharge_m; rw [fl_row_self, upd_self, eh]
  have W : ∀ w : Nat, w ≠ 444 + 61 * C + 1 → G 280 w = fr 280 w := fun w hw => by rw [← hG, fl_row_self, upd_ne hw]
  have w1 : G 280 (444 + 61 * C + 1) = v := by rw [← hG, fl_row_self, upd_self]
  have new := c0_Rc_new (F := F) (G := G) rc (by rw [e0]; exact cap) (by rw [q2, w1]) (by rw [q3, q2]) q4 (by rw [Q 8 (by decide) (by decide) (by decide), W _ (by omega)]; exact rc.2.2.2.1) (fun j h2 h3 h4 _ => Q j h2 h3 h4) (fun w _ h1 _ => W _ (by omega))
  refine h.cellC hC (fun p _ _ hp => P p hp) (fun w _ _ hw => W w (by omega)) ⟨new.1, gc.congr (fun j _ _ => Q j (by omega) (by omega) (by omega)) (fun p hp => P p (by omega)) (fun w hw => W _ (by omega))⟩ ?_
  obtain ⟨⟨o1, o2⟩, o3, o4, o5, o6, o7, o8, o9⟩ := oc
  refine ⟨⟨by rw [W _ (by omega)]; exact o1, by rw [w1, W _ (by omega)]; exact hv⟩, by rw [W _ (by omega)]; exact o3, by rw [W _ (by omega), W _ (by omega)]; exact o4, by rw [W _ (by omega), W 7 (by omega)]; exact o5, by rw [W _ (by omega)]; exact o6, by rw [W _ (by omega)]; exact o7, by rw [W _ (by omega)]; exact o8, o9.congr (fun w hw => W _ (by omega))⟩
/-- a MARK is laid -/
theorem c0_I.mark (h : c0_I fc fr) (hA : A < 3) (P : ∀ p : Nat, 1 ≤ p → p < 91 → (p < 82 + 3 * A ∨ 85 + 3 * A ≤ p) → F p = fc p) (W : ∀ w : Nat, 2 ≤ w → (w < 339 + 35 * A ∨ 339 + 35 * A + 35 ≤ w) → G 280 w = fr 280 w)
    (f2 : F (82 + 3 * A) 2 = fc 1 5) (f3 : F (82 + 3 * A) 3 = fc 1 6) (f4 : ∀ j : Nat, (j : Int) < (fc 1 5).toInt → F (83 + 3 * A) j = fc (18 + 4 * j) 3) (f5 : ∀ j : Nat, (j : Int) < (fc 1 5).toInt → F (84 + 3 * A) j = fc (18 + 4 * j) 9)
    (g0 : G 280 (339 + 35 * A) = 1) (g1 : G 280 (339 + 35 * A + 1) = fr 280 7) (g2 : G 280 (339 + 35 * A + 2) = fr 280 2) (g3 : ∀ j : Nat, (j : Int) < (fr 280 2).toInt → G 280 (339 + 35 * A + 3 + j) = r_partOf_v fr (Int32.ofNat j) j) (g4 : ∀ j : Nat, (j : Int) < (fr 280 2).toInt → G 280 (339 + 35 * A + 19 + j) = fr 280 (444 + 61 * j + 5)) : c0_I F G := by
  have hh := h
  obtain ⟨⟨⟨s5, s6, -⟩, -⟩, -, ⟨gt, gw, tr, gm⟩, cl, ok⟩ := h
  have n16 := ok.2.1.2.2.1
  refine hh.gx (fun p hp => P p (by omega) (by omega) (by omega)) (fun w hw => W w (by omega) (by omega)) ⟨gt.congr ok.2.2.2.2.2.1.1.2 (P _ (by decide) (by decide) (by omega)) (P _ (by decide) (by decide) (by omega)) (P _ (by decide) (by decide) (by omega)) (P _ (by decide) (by decide) (by omega)) (P _ (by decide) (by decide) (by omega)) (P _ (by decide) (by decide) (by omega)) (fun w hw => W w (by omega) (by omega)), gw.congr (P _ (by decide) (by decide) (by omega)) (P _ (by decide) (by decide) (by omega)) (P _ (by decide) (by decide) (by omega)) (P _ (by decide) (by decide) (by omega)) (P _ (by decide) (by decide) (by omega)) (fun w hw => W w (by omega) (by omega)), tr.congr (P _ (by decide) (by decide) (by omega)) (P _ (by decide) (by decide) (by omega)) (fun w hw => W w (by omega) (by omega)), fun m hm => ?_⟩ ?_
  · by_cases e : m = A
    · subst e
      refine ⟨by rw [f2, g2, s5], by rw [g2]; exact n16, fun _ => ⟨g0, by rw [f3, g1, s6]⟩, fun c hc => ?_⟩
      rw [g2] at hc
      have rc := (cl c hc).1
      rw [f4 c (by rw [s5]; exact hc), f5 c (by rw [s5]; exact hc), g3 c hc, g4 c hc]
      exact ⟨rc.2.1.1, rc.2.2.2.2.1⟩
    · obtain ⟨h1, h2, h3, h4⟩ := gm m hm
      rw [P (82 + 3 * m) (by omega) (by omega) (by omega), P (83 + 3 * m) (by omega) (by omega) (by omega), P (84 + 3 * m) (by omega) (by omega) (by omega), W (339 + 35 * m + 2) (by omega) (by omega), W (339 + 35 * m) (by omega) (by omega), W (339 + 35 * m + 1) (by omega) (by omega)]
      exact ⟨h1, h2, h3, fun c hc => by rw [W _ (by omega) (by omega), W _ (by omega) (by omega)]; exact h4 c hc⟩
  · refine ok.upd (fun w hw => W w (by omega) (by omega)) (fun k hk => by rw [W _ (by omega) (by omega)]; exact ok.s hk) (by rw [W 5 (by omega) (by omega)]; exact ok.2.1.1) (by rw [W 4 (by omega) (by omega)]; exact ok.2.1.2.1) (by rw [W 7 (by omega) (by omega)]; exact ok.2.1.2.2.2) (by rw [W 16 (by omega) (by omega), W 20 (by omega) (by omega), W 21 (by omega) (by omega)]; exact ok.2.2.2.2.2.2.1) (fun C hC => ?_)
    exact (ok.2.2.2.2.2.2.2 C hC).congr (fun w hw => W _ (by omega) (by omega)) (by rw [W 7 (by omega) (by omega)]; exact Int.le_refl _)
/-- a new cell's words -/
def t2_nc (a c amb ch pt : Int32) (w : Nat) : Int32 := if w = 0 then a else if w = 1 then ch else if w = 2 then c else if w = 3 then amb else if w = 4 then ch else if w = 6 then a else if w = 7 then (-2000000000 : Int32) else if w = 8 then (2000000000 : Int32) else if w = 10 then (1 : Int32) else if w = 11 then (-1000000 : Int32) else if w = 12 then (-1 : Int32) else if w = 16 then (-1 : Int32) else if w = 17 then pt else 0
/-- a CELL more -/
theorem c0_I.cell1 {ch pt : Int32} (h : c0_I fc fr) (hn : (fr 280 2).toInt = (C : Int)) (h16 : C < 16) (ha : t2_cap a) (hc : 0 ≤ c.toInt ∧ c.toInt ≤ 99) (hch : 0 ≤ ch.toInt ∧ ch.toInt ≤ 3600 * a.toInt) (hpt : pt = t2_partOf_v ch (a * (3600 : Int32)))
    (P : ∀ p : Nat, 1 ≤ p → p < 91 → p ≠ 1 → (p < 18 + 4 * C ∨ 22 + 4 * C ≤ p) → F p = fc p) (P1 : ∀ j : Nat, j ≠ 5 → F 1 j = fc 1 j) (P15 : F 1 5 = fc 1 5 + (1 : Int32))
    (q1 : F (18 + 4 * C) 0 = a ∧ F (18 + 4 * C) 1 = a ∧ F (18 + 4 * C) 5 = c ∧ F (18 + 4 * C) 6 = fc 4 6) (q2 : F (18 + 4 * C) 2 = ch ∧ F (18 + 4 * C) 3 = pt ∧ F (18 + 4 * C) 4 = t2_rb pt ∧ F (18 + 4 * C) 8 = ch) (q3 : F (18 + 4 * C) 7 = 0 ∧ F (18 + 4 * C) 9 = 0 ∧ F (18 + 4 * C) 10 = 0) (q4 : F (18 + 4 * C) 14 = (-1000000 : Int32) ∧ F (18 + 4 * C) 15 = (-1 : Int32) ∧ F (18 + 4 * C) 16 = 0 ∧ F (18 + 4 * C) 17 = (-1 : Int32) ∧ F (18 + 4 * C) 18 = 0)
    (q5 : F (19 + 4 * C) 2 = (1 : Int32) ∧ F (20 + 4 * C) 0 = pt ∧ ∀ j : Nat, j < 11 → F (21 + 4 * C) j = 0)
    (W : ∀ w : Nat, 3 ≤ w → (w < 444 + 61 * C ∨ 444 + 61 * C + 61 ≤ w) → G 280 w = fr 280 w) (W2 : G 280 2 = fr 280 2 + (1 : Int32)) (W3 : ∀ w : Nat, w < 61 → G 280 (444 + 61 * C + w) = t2_nc a c (fr 280 40) ch pt w) : c0_I F G := by
  obtain ⟨⟨⟨g5, g6, g7, g8⟩, ⟨g9, g10, g11, g12⟩, g13, g14, g15, g16⟩, rs, ⟨gt, gw, tr, gm⟩, cl, ok⟩ := h
  have c1 : (1 : Int32).toInt = 1 := by decide +kernel
  have c0 : (0 : Int32).toInt = 0 := rfl
  have cm1 : (-1 : Int32).toInt = -1 := by decide +kernel
  have e2 : (G 280 2).toInt = C + 1 := by rw [W2, at_add32 (by omega) (by omega)]; omega
  have hcap : 100 ≤ a.toInt ∧ a.toInt ≤ 9999 := ha
  have c36 : (3600 : Int32).toInt = 3600 := by decide +kernel
  have em : (a * (3600 : Int32)).toInt = a.toInt * 3600 := by rw [at_mul32 (by rw [c36]; omega) (by rw [c36]; omega), c36]
  have hpt2 : 0 ≤ pt.toInt ∧ pt.toInt ≤ 1000 := by
    have := t2_partOf_b (c := ch) (x := a * (3600 : Int32)) hch.1 (by omega)
    rw [hpt]
    exact this.2
  have w0 : G 280 (444 + 61 * C + 0) = a := (W3 0 (by decide)).trans rfl
  have w1 : G 280 (444 + 61 * C + 1) = ch := (W3 1 (by decide)).trans rfl
  have w2 : G 280 (444 + 61 * C + 2) = c := (W3 2 (by decide)).trans rfl
  have w3 : G 280 (444 + 61 * C + 3) = fr 280 40 := (W3 3 (by decide)).trans rfl
  have w4 : G 280 (444 + 61 * C + 4) = ch := (W3 4 (by decide)).trans rfl
  have w5 : G 280 (444 + 61 * C + 5) = 0 := (W3 5 (by decide)).trans rfl
  have w6 : G 280 (444 + 61 * C + 6) = a := (W3 6 (by decide)).trans rfl
  have w7 : G 280 (444 + 61 * C + 7) = (-2000000000 : Int32) := (W3 7 (by decide)).trans rfl
  have w8 : G 280 (444 + 61 * C + 8) = (2000000000 : Int32) := (W3 8 (by decide)).trans rfl
  have w9 : G 280 (444 + 61 * C + 9) = 0 := (W3 9 (by decide)).trans rfl
  have w10 : G 280 (444 + 61 * C + 10) = (1 : Int32) := (W3 10 (by decide)).trans rfl
  have w11 : G 280 (444 + 61 * C + 11) = (-1000000 : Int32) := (W3 11 (by decide)).trans rfl
  have w12 : G 280 (444 + 61 * C + 12) = (-1 : Int32) := (W3 12 (by decide)).trans rfl
  have w13 : G 280 (444 + 61 * C + 13) = 0 := (W3 13 (by decide)).trans rfl
  have w15 : G 280 (444 + 61 * C + 15) = 0 := (W3 15 (by decide)).trans rfl
  have w16 : G 280 (444 + 61 * C + 16) = (-1 : Int32) := (W3 16 (by decide)).trans rfl
  have w17 : G 280 (444 + 61 * C + 17) = pt := (W3 17 (by decide)).trans rfl
  have wz : ∀ w : Nat, 18 ≤ w → w < 61 → G 280 (444 + 61 * C + w) = 0 := fun w h1 h2 => by
    rw [W3 w h2]
    unfold t2_nc
    simp (disch := omega) only [if_neg]
  have epr : r_partOf_v G 0 C = pt := by
    unfold r_partOf_v
    rw [w0, w1, t2_partAt_eq ha, hpt]
  have al : r_alt G C := by
    refine ⟨by rw [w10, c1]; omega, fun k hk => ?_, fun i hi => ?_, fun i hi => ?_⟩
    · by_cases e : k = 0
      · subst e
        rw [show 444 + 61 * C + (17 + 0) = 444 + 61 * C + 17 by omega, w17]
        exact hpt2
      · rw [wz _ (by omega) (by omega), c0]
        omega
    · rw [w10, c1] at hi
      omega
    · rw [w10, c1] at hi
      omega
  refine ⟨⟨⟨?_, ?_, ?_, ?_⟩, ⟨?_, ?_, ?_, ?_⟩, ?_, ?_, ?_, ?_⟩, rs.congr (P _ (by decide) (by decide) (by decide) (by omega)) (fun k hk => W _ (by omega) (by omega)), ⟨gt.congr ok.2.2.2.2.2.1.1.2 (P _ (by decide) (by decide) (by decide) (by omega)) (P _ (by decide) (by decide) (by decide) (by omega)) (P _ (by decide) (by decide) (by decide) (by omega)) (P _ (by decide) (by decide) (by decide) (by omega)) (P _ (by decide) (by decide) (by decide) (by omega)) (P _ (by decide) (by decide) (by decide) (by omega)) (fun w hw => W w (by omega) (by omega)), gw.congr (P _ (by decide) (by decide) (by decide) (by omega)) (P _ (by decide) (by decide) (by decide) (by omega)) (P _ (by decide) (by decide) (by decide) (by omega)) (P _ (by decide) (by decide) (by decide) (by omega)) (P _ (by decide) (by decide) (by decide) (by omega)) (fun w hw => W w (by omega) (by omega)), tr.congr (P _ (by decide) (by decide) (by decide) (by omega)) (P _ (by decide) (by decide) (by decide) (by omega)) (fun w hw => W w (by omega) (by omega)), gm.congr (fun p hp => P p (by omega) (by omega) (by omega) (by omega)) (fun w hw => W w (by omega) (by omega))⟩, fun D hD => ?_, ?_⟩
  · rw [P15, W2, g5]
  · rw [P1 6 (by decide), W 7 (by decide) (by omega), g6]
  · rw [P1 7 (by decide), W 3 (by decide) (by omega), g7]
  · rw [P1 8 (by decide), W 4 (by decide) (by omega), g8]
  · rw [P1 9 (by decide), W 5 (by decide) (by omega), g9]
  · rw [P1 10 (by decide), W 14 (by decide) (by omega), g10]
  · rw [P1 11 (by decide), W 8 (by decide) (by omega), g11]
  · rw [P1 12 (by decide), W 9 (by decide) (by omega), g12]
  · rw [P1 13 (by decide), W 10 (by decide) (by omega), g13]
  · rw [P1 14 (by decide), W 11 (by decide) (by omega), g14]
  · rw [P1 15 (by decide), W 12 (by decide) (by omega), g15]
  · rw [P1 16 (by decide), W 13 (by decide) (by omega), g16]
  · rw [e2] at hD
    by_cases e : D = C
    · subst e
      refine ⟨⟨⟨by rw [w0]; exact q1.1, by rw [w6]; exact q1.2.1, by rw [w1]; exact q2.1⟩, ⟨by rw [epr]; exact q2.2.1, by rw [epr]; exact q2.2.2.1⟩, ⟨by rw [w2]; exact q1.2.2.1, by rw [w3, q1.2.2.2]; exact rs 6 (by decide), by rw [w9]; exact q3.1⟩, by rw [w4]; exact q2.2.2.2, by rw [w5]; exact q3.2.1, by rw [wz 60 (by decide) (by decide)]; exact q4.2.2.2.2⟩, ⟨by rw [w11]; exact q4.1, by rw [w12]; exact q4.2.1, by rw [w13]; exact q4.2.2.1, by rw [w16]; exact q4.2.2.2.1⟩, ⟨by rw [w15]; exact q3.2.2, fun q => absurd (w15.symm.trans q) (by decide)⟩, Or.inl ⟨q3.2.2, w7, w8⟩, by rw [w10]; exact q5.1, fun i hi => ?_, fun k hk => ?_, al⟩
      · rw [w10, c1] at hi
        have : i = 0 := by omega
        subst this
        rw [show 444 + 61 * D + (17 + 0) = 444 + 61 * D + 17 by omega, w17]
        exact q5.2.1
      · rw [wz _ (by omega) (by omega)]
        exact q5.2.2 k hk
    · have hD' : (D : Int) < (fr 280 2).toInt := by omega
      exact ⟨(cl D hD').1.congr (P _ (by omega) (by omega) (by omega) (by omega)) (fun k hk => W _ (by omega) (by omega)), (cl D hD').2.congr (fun j _ _ => by rw [P _ (by omega) (by omega) (by omega) (by omega)]) (fun p hp => P p (by omega) (by omega) (by omega) (by omega)) (fun w hw => W _ (by omega) (by omega))⟩
  · obtain ⟨o1, o2, o3, o4, o5, o6, o7, o8⟩ := ok
    refine ⟨fun k hk => by rw [W _ (by omega) (by omega)]; exact o1 k hk, ⟨by rw [W 5 (by decide) (by omega)]; exact o2.1, by rw [W 4 (by decide) (by omega)]; exact o2.2.1, by rw [e2]; omega, by rw [W 7 (by decide) (by omega)]; exact o2.2.2.2⟩, fun k hk => by rw [W _ (by omega) (by omega)]; exact o3 k hk, ?_, ?_, ?_, ?_, fun D hD => ?_⟩
    · rw [W 17 (by decide) (by omega)]
      exact ⟨o4.1, fun k hk => by rw [W _ (by omega) (by omega)]; exact o4.2 k hk⟩
    · rw [W 18 (by decide) (by omega)]
      exact ⟨o5.1, fun j hj => by rw [W _ (by omega) (by omega)]; exact o5.2.1 j hj, fun j hj => by rw [W _ (by omega) (by omega), W _ (by omega) (by omega)]; exact o5.2.2 j hj⟩
    · rw [W 19 (by decide) (by omega)]
      exact ⟨o6.1, fun j hj => by rw [W _ (by omega) (by omega), W _ (by omega) (by omega)]; exact o6.2 j hj⟩
    · rw [W 16 (by decide) (by omega), W 20 (by decide) (by omega), W 21 (by decide) (by omega)]
      exact o7
    · rw [e2] at hD
      by_cases e : D = C
      · subst e
        have t0 := o2.2.2.2.1
        refine ⟨⟨by rw [w0]; exact ha, by rw [w1, w0]; exact hch⟩, by rw [w2]; exact hc, by rw [w4, w0]; exact hch, by rw [w5, W 7 (by decide) (by omega), c0]; omega, by rw [w9, c0]; omega, Or.inl w15, by rw [w16, cm1]; omega, ?_⟩
        exact al
      · exact (o8 D (by omega)).congr (fun w hw => W _ (by omega) (by omega)) (by rw [W 7 (by decide) (by omega)]; exact Int.le_refl _)
end C0MUTC

end

/-! 94.62.mq1.lean.txt -/
section
/-! ===== the calls that change something, one after the other on both sides ===== -/
theorem t2_w0 {x lo hi : Int32} : (t2_within_v x lo hi).toInt = 0 ↔ ¬ (lo.toInt ≤ x.toInt ∧ x.toInt ≤ hi.toInt) := by
  have c0 : (0 : Int32).toInt = 0 := rfl
  have c1 : (1 : Int32).toInt = 1 := by decide +kernel
  unfold t2_within_v
  split
  · rw [c0]
    omega
  · split
    · rw [c0]
      omega
    · rw [c1]
      omega
theorem r_i0 {x lo hi : Int32} : (r_isIn_v x lo hi).toInt = 0 ↔ ¬ (lo.toInt ≤ x.toInt ∧ x.toInt ≤ hi.toInt) := t2_w0
section T2MQ1
variable {L : Nat} {xs : Nat → Int32} {f : t2_F} {l : t2_L} {Q : Option fl_V → fl_M → Prop} {a b : Int32}
theorem t2_Z.w0 (Z : t2_Z (f, l)) : 0 ≤ (f 280 0).toInt ∧ (f 280 0).toInt ≤ 20 := Z.2.2.1.1.2.2.1
theorem t2_Z.w1 (Z : t2_Z (f, l)) : 0 ≤ (f 280 1).toInt ∧ (f 280 1).toInt ≤ 19 := Z.2.2.1.1.2.2.2.1
theorem t2_Z.rkeep {F : t2_F} {l' : t2_L} (Z : t2_Z (f, l)) (e : F 280 = f 280) (k : ∀ g : t2_F, (∀ p : Nat, p ≠ 280 → g p = F p) → t2_RK F g → Q none (g, l')) : fl_Tq (pw_P L xs) 241 0 (fl_args (am_mxl (pw_P L xs) 241) [.inr (.inr (.inl (76, 277)))]) [] (F, l') Q :=
  t2_rkeep (by rw [e]; exact Z.w0) (by rw [e]; exact Z.w1) k
/-- hear -/
theorem t2_hear (Z : t2_Z (f, l)) : fl_Tq (pw_P L xs) 111 0 (fl_args (am_mxl (pw_P L xs) 111) [lx_x]) [] (f, l) (t2_Mid L xs 255 [at_this]) := by
  show fl_Tq (pw_P L xs) 111 0 [some (.inr (.inr (.inl (0, 0)))), none] [] (f, l) _
  refine x_hear_A ?_
  refine fl_Tq.cal rfl rfl (fl_bo rfl) rfl ?_
  refine t2_ckeep Z (fun g l' C => ?_)
  refine x_hear_B ?_
  have hF : ∀ p : Nat, 91 ≤ p → fl_row g 10 (upd (g 10) 4 (0 : Int32)) p = g p := fun p hp => fl_row_ne (by omega)
  refine ⟨fun p hp i => by show fl_row g 10 _ p i = _; rw [fl_row_ne (by have : fl_N l'.2 ≤ p := hp; unfold fl_N at this; omega)]; exact C.U Z.U p hp i, ⟨_, rfl⟩, ?_⟩
  show fl_Tq (pw_P L xs) 255 0 [some (.inr (.inr (.inl (76, 277)))), none] [] _ _
  refine y_hear_A ?_
  refine fl_Tq.cal rfl rfl (fl_bo rfl) rfl ?_
  refine Z.rkeep (C.F280 hF) (fun G hG K => ?_)
  refine y_hear_B ?_
  have I0 := Z.I0 C (C.F280 hF) K
  have e : G 280 22 = g 10 4 := I0.2.2.1.2.1.1.2.1.symm
  have fin := Z.fin C hF K hG (H := fl_row G 280 (upd (G 280) 22 (0 : Int32))) (fun p hp => fl_row_ne (by omega)) (by rw [fl_row_ne (by decide)]) (fun w hw => by rw [fl_row_self, upd_ne (by omega)]) I0.silence
  exact ⟨by rw [e], fin.1, fin.2⟩
/-- stuck -/
theorem t2_stuck (Z : t2_Z (f, l)) : fl_Tq (pw_P L xs) 109 0 (fl_args (am_mxl (pw_P L xs) 109) [lx_x, .inl a, .inl b]) [] (f, l) (t2_Mid L xs 258 [at_this, .inl a, .inl b]) := by
  have c0 : (0 : Int32).toInt = 0 := rfl
  have c2 : (2 : Int32).toInt = 2 := by decide +kernel
  show fl_Tq (pw_P L xs) 109 0 [some (.inr (.inr (.inl (0, 0)))), some (.inl a), some (.inl b)] [] (f, l) _
  have no : ¬ ((0 ≤ a.toInt ∧ a.toInt ≤ 2) ∧ 0 ≤ b.toInt ∧ b.toInt ≤ 2) → t2_Mid L xs 258 [at_this, .inl a, .inl b] (some (.inl (0 : Int32))) (f, l) := fun hn => by
    refine ⟨Z.U, ⟨_, rfl⟩, ?_⟩
    show fl_Tq (pw_P L xs) 258 0 [some (.inr (.inr (.inl (76, 277)))), some (.inl a), some (.inl b)] [] (f, l) _
    refine y_stuck_A (fun h1 => ⟨rfl, Z.2, Z.U⟩) (fun h1 h2 => ⟨rfl, Z.2, Z.U⟩) (fun h1 h2 => ?_)
    rw [r_i0, c0, c2] at h1 h2
    omega
  refine x_stuck_A (fun h1 => no (by rw [t2_w0, c0, c2] at h1; omega)) (fun h1 h2 => no (by rw [t2_w0, c0, c2] at h2; omega)) (fun h1 h2 => ?_)
  rw [t2_w0, c0, c2, Classical.not_not] at h1 h2
  obtain ⟨A, hA⟩ : ∃ A : Nat, a.toInt = A := ⟨a.toInt.toNat, by omega⟩
  have hA1 : A < 3 := by omega
  have hb : t2_how b := by
    have c1 : (1 : Int32).toInt = 1 := by decide +kernel
    rcases (by omega : b.toInt = 0 ∨ b.toInt = 1 ∨ b.toInt = 2) with e | e | e
    · exact Or.inl (Int32.toInt.inj (by rw [e, c0]))
    · exact Or.inr (Or.inl (Int32.toInt.inj (by rw [e, c1])))
    · exact Or.inr (Or.inr (Int32.toInt.inj (by rw [e, c2])))
  refine fl_Tq.cal rfl rfl (fl_bo rfl) rfl ?_
  refine t2_ckeep Z (fun g l' C => ?_)
  refine x_stuck_B hA hA1 ?_
  have hF : ∀ p : Nat, 91 ≤ p → fl_row g 5 (upd (g 5) A b) p = g p := fun p hp => fl_row_ne (by omega)
  refine ⟨fun p hp i => by show fl_row g 5 _ p i = _; rw [fl_row_ne (by have : fl_N l'.2 ≤ p := hp; unfold fl_N at this; omega)]; exact C.U Z.U p hp i, ⟨_, rfl⟩, ?_⟩
  show fl_Tq (pw_P L xs) 258 0 [some (.inr (.inr (.inl (76, 277)))), some (.inl a), some (.inl b)] [] _ _
  refine y_stuck_A (fun h => ?_) (fun _ h => ?_) (fun _ _ => ?_)
  · rw [r_i0, c0, c2] at h
    omega
  · rw [r_i0, c0, c2] at h
    omega
  refine fl_Tq.cal rfl rfl (fl_bo rfl) rfl ?_
  refine Z.rkeep (C.F280 hF) (fun G hG K => ?_)
  refine y_stuck_B hA hA1 ?_
  have I0 := Z.I0 C (C.F280 hF) K
  have fin := Z.fin C hF K hG (H := fl_row G 280 (upd (G 280) (64 + A) b)) (fun p hp => fl_row_ne (by omega)) (by rw [fl_row_ne (by decide)]) (fun w hw => by rw [fl_row_self, upd_ne (by omega)]) (I0.stuck hA1 hb)
  exact ⟨rfl, fin.1, fin.2⟩
/-- price -/
theorem t2_price (Z : t2_Z (f, l)) : fl_Tq (pw_P L xs) 112 0 (fl_args (am_mxl (pw_P L xs) 112) [lx_x, .inl a, .inl b]) [] (f, l) (t2_Mid L xs 256 [at_this, .inl a, .inl b]) := by
  have c0 : (0 : Int32).toInt = 0 := rfl
  have c23 : (23 : Int32).toInt = 23 := by decide +kernel
  have c999 : (999 : Int32).toInt = 999 := by decide +kernel
  show fl_Tq (pw_P L xs) 112 0 [some (.inr (.inr (.inl (0, 0)))), some (.inl a), some (.inl b)] [] (f, l) _
  have no : ¬ ((0 ≤ a.toInt ∧ a.toInt ≤ 23) ∧ 0 ≤ b.toInt ∧ b.toInt ≤ 999) → t2_Mid L xs 256 [at_this, .inl a, .inl b] (some (.inl (0 : Int32))) (f, l) := fun hn => by
    refine ⟨Z.U, ⟨_, rfl⟩, ?_⟩
    show fl_Tq (pw_P L xs) 256 0 [some (.inr (.inr (.inl (76, 277)))), some (.inl a), some (.inl b)] [] (f, l) _
    refine y_price_A (fun h1 => ⟨rfl, Z.2, Z.U⟩) (fun h1 h2 => ⟨rfl, Z.2, Z.U⟩) (fun h1 h2 => ?_)
    rw [r_i0, c0, c23] at h1
    rw [r_i0, c0, c999] at h2
    omega
  refine x_price_A (fun h1 => no (by rw [t2_w0, c0, c23] at h1; omega)) (fun h1 h2 => no (by rw [t2_w0, c0, c999] at h2; omega)) (fun h1 h2 => ?_)
  rw [t2_w0, c0, c23, Classical.not_not] at h1
  rw [t2_w0, c0, c999, Classical.not_not] at h2
  obtain ⟨A, hA⟩ : ∃ A : Nat, a.toInt = A := ⟨a.toInt.toNat, by omega⟩
  have hA1 : A < 24 := by omega
  refine fl_Tq.cal rfl rfl (fl_bo rfl) rfl ?_
  refine t2_ckeep Z (fun g l' C => ?_)
  refine x_price_B hA hA1 ?_
  have hF : ∀ p : Nat, 91 ≤ p → fl_row g 6 (upd (g 6) A b) p = g p := fun p hp => fl_row_ne (by omega)
  refine ⟨fun p hp i => by show fl_row g 6 _ p i = _; rw [fl_row_ne (by have : fl_N l'.2 ≤ p := hp; unfold fl_N at this; omega)]; exact C.U Z.U p hp i, ⟨_, rfl⟩, ?_⟩
  show fl_Tq (pw_P L xs) 256 0 [some (.inr (.inr (.inl (76, 277)))), some (.inl a), some (.inl b)] [] _ _
  refine y_price_A (fun h => ?_) (fun _ h => ?_) (fun _ _ => ?_)
  · rw [r_i0, c0, c23] at h
    omega
  · rw [r_i0, c0, c999] at h
    omega
  refine fl_Tq.cal rfl rfl (fl_bo rfl) rfl ?_
  refine Z.rkeep (C.F280 hF) (fun G hG K => ?_)
  refine y_price_B hA hA1 ?_
  have I0 := Z.I0 C (C.F280 hF) K
  have fin := Z.fin C hF K hG (H := fl_row G 280 (upd (G 280) (315 + A) b)) (fun p hp => fl_row_ne (by omega)) (by rw [fl_row_ne (by decide)]) (fun w hw => by rw [fl_row_self, upd_ne (by omega)]) (I0.price hA1)
  exact ⟨rfl, fin.1, fin.2⟩
/-- close -/
theorem t2_close (Z : t2_Z (f, l)) : fl_Tq (pw_P L xs) 106 0 (fl_args (am_mxl (pw_P L xs) 106) [lx_x]) [] (f, l) (t2_Mid L xs 251 [at_this]) := by
  have I : c0_I f f := Z.2.1
  have e3 : f 1 7 = f 280 3 := I.1.1.2.2.1
  have e6 : f 10 3 = f 280 6 := I.2.2.1.2.1.1.1
  have e2 : f 1 5 = f 280 2 := I.1.1.1
  show fl_Tq (pw_P L xs) 106 0 [some (.inr (.inr (.inl (0, 0))))] [] (f, l) _
  have no : ¬ ((f 280 3).toInt = 0 ∧ (f 280 6).toInt = 0 ∧ ¬ (f 280 2).toInt = 0) → t2_Mid L xs 251 [at_this] (some (.inl (0 : Int32))) (f, l) := fun hn => by
    refine ⟨Z.U, ⟨_, rfl⟩, ?_⟩
    show fl_Tq (pw_P L xs) 251 0 [some (.inr (.inr (.inl (76, 277))))] [] (f, l) _
    exact y_close_A (fun h1 h2 h3 => ⟨rfl, Z.2, Z.U⟩) (fun h1 h2 h3 => absurd ⟨h1, h2, h3⟩ hn) (fun h1 h2 => ⟨rfl, Z.2, Z.U⟩) (fun h1 => ⟨rfl, Z.2, Z.U⟩)
  refine x_close_A (fun h1 h2 h3 => no (fun h => h.2.2 (by rw [← e2]; exact h3))) (fun h1 h2 h3 => ?_) (fun h1 h2 => no (fun h => h2 (by rw [e6]; exact h.2.1))) (fun h1 => no (fun h => h1 (by rw [e3]; exact h.1)))
  rw [e3] at h1
  rw [e6] at h2
  rw [e2] at h3
  refine fl_Tq.cal rfl rfl (fl_bo rfl) rfl ?_
  refine t2_ckeep Z (fun g l' C => ?_)
  refine x_close_B ?_
  have hF : ∀ p : Nat, 91 ≤ p → fl_row g 1 (upd (g 1) 7 (1 : Int32)) p = g p := fun p hp => fl_row_ne (by omega)
  have F280 := C.F280 hF
  refine ⟨fun p hp i => by show fl_row g 1 _ p i = _; rw [fl_row_ne (by have : fl_N l'.2 ≤ p := hp; unfold fl_N at this; omega)]; exact C.U Z.U p hp i, ⟨_, rfl⟩, ?_⟩
  show fl_Tq (pw_P L xs) 251 0 [some (.inr (.inr (.inl (76, 277))))] [] _ _
  refine y_close_A (fun _ _ h => ?_) (fun _ _ _ => ?_) (fun _ h => ?_) (fun h => ?_)
  · rw [F280] at h
    exact absurd h h3
  · refine fl_Tq.cal rfl rfl (fl_bo rfl) rfl ?_
    refine Z.rkeep F280 (fun G hG K => ?_)
    refine y_close_B ?_
    have I0 := Z.I0 C F280 K
    have fin := Z.fin C hF K hG (H := fl_row G 280 (upd (G 280) 3 (1 : Int32))) (fun p hp => fl_row_ne (by omega)) (by rw [fl_row_ne (by decide)]) (fun w hw => by rw [fl_row_self, upd_ne (by omega)]) I0.state
    exact ⟨rfl, fin.1, fin.2⟩
  · rw [F280] at h
    exact absurd h2 h
  · rw [F280] at h
    exact absurd h1 h
/-- open -/
theorem t2_open (Z : t2_Z (f, l)) : fl_Tq (pw_P L xs) 107 0 (fl_args (am_mxl (pw_P L xs) 107) [lx_x]) [] (f, l) (t2_Mid L xs 252 [at_this]) := by
  have I : c0_I f f := Z.2.1
  have c0 : (0 : Int32).toInt = 0 := rfl
  have e3 : f 1 7 = f 280 3 := I.1.1.2.2.1
  show fl_Tq (pw_P L xs) 107 0 [some (.inr (.inr (.inl (0, 0))))] [] (f, l) _
  refine x_open_A (fun h1 => ?_) (fun h1 => ?_)
  · refine ⟨Z.U, ⟨_, rfl⟩, ?_⟩
    show fl_Tq (pw_P L xs) 252 0 [some (.inr (.inr (.inl (76, 277))))] [] (f, l) _
    exact y_open_A (fun _ => ⟨rfl, Z.2, Z.U⟩) (fun h => absurd (by rw [← e3]; exact h1) h)
  rw [e3] at h1
  refine fl_Tq.cal rfl rfl (fl_bo rfl) rfl ?_
  refine t2_ckeep Z (fun g l' C => ?_)
  refine x_open_B ?_
  have hF : ∀ p : Nat, 91 ≤ p → fl_row g 1 (upd (upd (g 1) 7 (0 : Int32)) 9 (0 : Int32)) p = g p := fun p hp => fl_row_ne (by omega)
  have F280 := C.F280 hF
  refine ⟨fun p hp i => by show fl_row g 1 _ p i = _; rw [fl_row_ne (by have : fl_N l'.2 ≤ p := hp; unfold fl_N at this; omega)]; exact C.U Z.U p hp i, ⟨_, rfl⟩, ?_⟩
  show fl_Tq (pw_P L xs) 252 0 [some (.inr (.inr (.inl (76, 277))))] [] _ _
  refine y_open_A (fun h => ?_) (fun _ => ?_)
  · rw [F280] at h
    exact absurd h h1
  refine fl_Tq.cal rfl rfl (fl_bo rfl) rfl ?_
  refine Z.rkeep F280 (fun G hG K => ?_)
  refine y_open_B ?_
  have I0 := Z.I0 C F280 K
  have J := (I0.state (v := (0 : Int32))).current (v := (0 : Int32)) (by rw [c0]; omega)
  have J2 : c0_I (fl_row g 1 (upd (upd (g 1) 7 (0 : Int32)) 9 (0 : Int32))) (fl_row G 280 (upd (upd (G 280) 3 (0 : Int32)) 5 (0 : Int32))) := J.ext (fun p _ _ => by
    by_cases e : p = 1
    · subst e
      rw [fl_row_self, fl_row_self, fl_row_self]
    · rw [fl_row_ne e, fl_row_ne e, fl_row_ne e]) (fun w _ _ => by rw [fl_row_self, fl_row_self, fl_row_self])
  have fin := Z.fin C hF K hG (H := fl_row G 280 (upd (upd (G 280) 3 (0 : Int32)) 5 (0 : Int32))) (fun p hp => fl_row_ne (by omega)) (by rw [fl_row_ne (by decide)]) (fun w hw => by rw [fl_row_self, upd_ne (by omega), upd_ne (by omega)]) J2
  exact ⟨rfl, fin.1, fin.2⟩
end T2MQ1

end

/-! 94.63.mq2.lean.txt -/
section
/-! ===== reset, set, zone, piece, rule ===== -/
section T2MQ2
variable {L : Nat} {xs : Nat → Int32} {f fc F : t2_F} {l l' : t2_L} {Q : Option fl_V → fl_M → Prop} {a b c d e : Int32}
/-- mayReset, of the reference, is the class's couldReset -/
theorem r_may_q (h : c0_I fc F) (k : Q (some (.inl (c0_couldReset_v fc a))) (F, l')) : fl_Tq (pw_P L xs) 253 0 (fl_args (am_mxl (pw_P L xs) 253) [.inr (.inr (.inl (76, 277))), .inl a]) [] (F, l') Q := by
  have c0 : (0 : Int32).toInt = 0 := rfl
  have c10 : (10 : Int32).toInt = 10 := by decide +kernel
  have e3 : fc 1 7 = F 280 3 := h.1.1.2.2.1
  have e7 : fc 1 6 = F 280 7 := h.1.1.2.1
  have e6 : fc 10 3 = F 280 6 := h.2.2.1.2.1.1.1
  have e21 : fc 4 21 = F 280 55 := h.2.1 21 (by decide)
  unfold c0_couldReset_v at k
  show fl_Tq (pw_P L xs) 253 0 [some (.inr (.inr (.inl (76, 277)))), some (.inl a)] [] (F, l') Q
  by_cases ha : 0 ≤ a.toInt ∧ a.toInt ≤ 10
  · obtain ⟨A, hA⟩ : ∃ A : Nat, a.toInt = A := ⟨a.toInt.toNat, by omega⟩
    have hA1 : A < 11 := by omega
    have ea : a = Int32.ofNat A := Int32.toInt.inj (by rw [at_ofN (by omega)]; exact hA)
    have ew : ¬ ((t2_within_v a (0 : Int32) (10 : Int32)).toInt = 0) := by rw [t2_w0, c0, c10]; omega
    have er : fc 11 a.toInt.toNat = F 280 (23 + A) := by
      rw [show a.toInt.toNat = A by omega]
      exact h.2.2.1.2.1.2.1 A hA1
    have eb : ((fc 10 3) &&& ((1 : Int32) <<< (a &&& 31))).toInt = 0 ↔ (r_has_v (F 280 6) a).toInt = 0 := by
      rw [ea, e6, t2_anb (by omega), t2_has0 (by omega)]
    rw [if_neg ew] at k
    refine y_reset_A0 (fun h1 => absurd h1 ew) (fun _ h2 => ?_) (fun _ h2 => ?_)
    · rw [if_pos (eb.mpr h2)] at k
      exact k
    · rw [if_neg (fun h => h2 (eb.mp h))] at k
      refine y_reset_A1 hA hA1 (fun h3 h4 => ?_) (fun h3 h4 => ?_) (fun h3 => ?_)
      · rw [if_pos (by rw [e3]; exact h3), if_pos (by rw [e7, er, e21]; exact h4)] at k
        exact k
      · rw [if_pos (by rw [e3]; exact h3), if_neg (by rw [e7, er, e21]; exact h4)] at k
        exact k
      · rw [if_neg (by rw [e3]; exact h3)] at k
        exact k
  · have ew : (t2_within_v a (0 : Int32) (10 : Int32)).toInt = 0 := by rw [t2_w0, c0, c10]; exact ha
    rw [if_pos ew] at k
    exact y_reset_A0 (fun _ => k) (fun h => absurd ew h) (fun h => absurd ew h)
/-- reset -/
theorem t2_reset (Z : t2_Z (f, l)) : fl_Tq (pw_P L xs) 108 0 (fl_args (am_mxl (pw_P L xs) 108) [lx_x, .inl a]) [] (f, l) (t2_Mid L xs 254 [at_this, .inl a]) := by
  have I : c0_I f f := Z.2.1
  show fl_Tq (pw_P L xs) 108 0 [some (.inr (.inr (.inl (0, 0)))), some (.inl a)] [] (f, l) _
  refine x_reset_A (fun h1 => ?_) (fun h1 => ?_)
  · refine ⟨Z.U, ⟨_, rfl⟩, ?_⟩
    show fl_Tq (pw_P L xs) 254 0 [some (.inr (.inr (.inl (76, 277)))), some (.inl a)] [] (f, l) _
    refine fl_Tq.stp rfl rfl (fl_bo rfl) rfl ?_
    refine fl_Tq.stp rfl rfl (fl_bo rfl) rfl ?_
    refine fl_Tq.cal rfl rfl (fl_bo rfl) rfl ?_
    refine r_may_q I ?_
    exact y_reset_A2 (fun _ => ⟨rfl, Z.2, Z.U⟩) (fun h => absurd h1 h)
  refine fl_Tq.cal rfl rfl (fl_bo rfl) rfl ?_
  refine t2_ckeep Z (fun g l' C => ?_)
  refine x_reset_B ?_
  have hF : ∀ p : Nat, 91 ≤ p → fl_row g 10 (upd (g 10) 3 ((g 10 3) &&& (((1 : Int32) <<< (a &&& 31)) ^^^ (-1 : Int32)))) p = g p := fun p hp => fl_row_ne (by omega)
  have F280 := C.F280 hF
  refine ⟨fun p hp i => by show fl_row g 10 _ p i = _; rw [fl_row_ne (by have : fl_N l'.2 ≤ p := hp; unfold fl_N at this; omega)]; exact C.U Z.U p hp i, ⟨_, rfl⟩, ?_⟩
  generalize hFF : fl_row g 10 (upd (g 10) 3 ((g 10 3) &&& (((1 : Int32) <<< (a &&& 31)) ^^^ (-1 : Int32)))) = F at *
  show fl_Tq (pw_P L xs) 254 0 [some (.inr (.inr (.inl (76, 277)))), some (.inl a)] [] _ _
  refine fl_Tq.stp rfl rfl (fl_bo rfl) rfl ?_
  refine fl_Tq.stp rfl rfl (fl_bo rfl) rfl ?_
  refine fl_Tq.cal rfl rfl (fl_bo rfl) rfl ?_
  refine r_may_q (fc := f) (I.ext (fun p _ _ => rfl) (fun w _ _ => by rw [F280])) ?_
  refine y_reset_A2 (fun h => absurd h h1) (fun _ => ?_)
  refine fl_Tq.cal rfl rfl (fl_bo rfl) rfl ?_
  refine Z.rkeep F280 (fun G hG K => ?_)
  refine y_reset_B ?_
  have I0 := Z.I0 C F280 K
  have e6 : g 10 3 = G 280 6 := I0.2.2.1.2.1.1.1
  have J := I0.latched (v := (g 10 3) &&& (((1 : Int32) <<< (a &&& 31)) ^^^ (-1 : Int32)))
  rw [hFF, e6] at J
  have fin := Z.fin C hF K hG (H := fl_row G 280 (upd (G 280) 6 ((G 280 6) &&& (((1 : Int32) <<< (a &&& 31)) ^^^ (-1 : Int32))))) (fun p hp => fl_row_ne (by omega)) (by rw [fl_row_ne (by decide)]) (fun w hw => by rw [fl_row_self, upd_ne (by omega)]) J
  exact ⟨rfl, fin.1, fin.2⟩
/-- set -/
theorem t2_set (Z : t2_Z (f, l)) : fl_Tq (pw_P L xs) 104 0 (fl_args (am_mxl (pw_P L xs) 104) [lx_x, .inl a, .inl b]) [] (f, l) (t2_Mid L xs 247 [at_this, .inl a, .inl b]) := by
  have c0 : (0 : Int32).toInt = 0 := rfl
  have c1 : (1 : Int32).toInt = 1 := by decide +kernel
  have B : ∀ j, f 278 j = (at_i0 278).getD j 0 := fun j => Z.1.2.2.2.2.2.2.2.2.2 278 j (Or.inl rfl)
  show fl_Tq (pw_P L xs) 104 0 [some (.inr (.inr (.inl (0, 0)))), some (.inl a), some (.inl b)] [] (f, l) _
  refine x_set_A ?_
  refine fl_Tq.cal rfl rfl (fl_bo rfl) rfl ?_
  refine at_x174 (fun z hz => ?_)
  refine x_set_A2 (fun h1 => ?_) (fun h1 => ?_)
  · have hn : ¬ at_sb a b := by
      rcases hz with ⟨rfl, -⟩ | ⟨-, h⟩
      · rw [c1] at h1; omega
      · exact h
    refine ⟨Z.U, ⟨_, rfl⟩, ?_⟩
    show fl_Tq (pw_P L xs) 247 0 [some (.inr (.inr (.inl (76, 277)))), some (.inl a), some (.inl b)] [] (f, l) _
    refine y_set_A ?_
    refine fl_Tq.cal rfl rfl (fl_bo rfl) rfl ?_
    refine at_m246 B (fun z2 hz2 => ?_)
    refine y_set_A2 (fun _ => ⟨rfl, Z.2, Z.U⟩) (fun h => ?_)
    rcases hz2 with ⟨-, h2⟩ | ⟨rfl, -⟩
    · exact absurd h2 hn
    · exact absurd c0 h
  · have hs : at_sb a b := by
      rcases hz with ⟨-, h⟩ | ⟨rfl, -⟩
      · exact h
      · exact absurd c0 h1
    obtain ⟨hA, hA1, hv⟩ := t2_sbk hs
    refine fl_Tq.cal rfl rfl (fl_bo rfl) rfl ?_
    refine t2_ckeep Z (fun g l' C => ?_)
    refine x_set_B hA hA1 ?_
    have hF : ∀ p : Nat, 91 ≤ p → fl_row g 4 (upd (g 4) a.toInt.toNat b) p = g p := fun p hp => fl_row_ne (by omega)
    have F280 := C.F280 hF
    refine ⟨fun p hp i => by show fl_row g 4 _ p i = _; rw [fl_row_ne (by have : fl_N l'.2 ≤ p := hp; unfold fl_N at this; omega)]; exact C.U Z.U p hp i, ⟨_, rfl⟩, ?_⟩
    show fl_Tq (pw_P L xs) 247 0 [some (.inr (.inr (.inl (76, 277)))), some (.inl a), some (.inl b)] [] _ _
    refine y_set_A ?_
    refine fl_Tq.cal rfl rfl (fl_bo rfl) rfl ?_
    refine at_m246 (fun j => by show fl_row g 4 (upd (g 4) a.toInt.toNat b) 278 j = _; rw [hF 278 (by decide), C.now (by decide) (by decide) (by decide)]; exact B j) (fun z2 hz2 => ?_)
    refine y_set_A2 (fun h => ?_) (fun _ => ?_)
    · rcases hz2 with ⟨rfl, -⟩ | ⟨-, h2⟩
      · rw [c1] at h; omega
      · exact absurd hs h2
    refine fl_Tq.cal rfl rfl (fl_bo rfl) rfl ?_
    refine Z.rkeep F280 (fun G hG K => ?_)
    refine y_set_B hA hA1 ?_
    have I0 := Z.I0 C F280 K
    have fin := Z.fin C hF K hG (H := fl_row G 280 (upd (G 280) (34 + a.toInt.toNat) b)) (fun p hp => fl_row_ne (by omega)) (by rw [fl_row_ne (by decide)]) (fun w hw => by rw [fl_row_self, upd_ne (by omega)]) (I0.set hA1 hv)
    exact ⟨rfl, fin.1, fin.2⟩
/-- piece -/
theorem t2_piece (Z : t2_Z (f, l)) : fl_Tq (pw_P L xs) 114 0 (fl_args (am_mxl (pw_P L xs) 114) [lx_x, .inl a, .inl b]) [] (f, l) (t2_Mid L xs 260 [at_this, .inl a, .inl b]) := by
  have I : c0_I f f := Z.2.1
  have c0 : (0 : Int32).toInt = 0 := rfl
  have c1 : (1 : Int32).toInt = 1 := by decide +kernel
  have c20 : (20 : Int32).toInt = 20 := by decide +kernel
  have c24 : (24 : Int32).toInt = 24 := by decide +kernel
  have c99 : (99 : Int32).toInt = 99 := by decide +kernel
  have c9 : (99999 : Int32).toInt = 99999 := by decide +kernel
  have cm9 : (-99999 : Int32).toInt = -99999 := by decide +kernel
  have e7 : f 3 7 = f 280 19 := I.2.2.1.1.2.2.2.2.1
  have n19 := I.2.2.2.2.2.2.2.2.2.1.1
  have q20 : t2_lo 20 = -99999 ∧ t2_hi 20 = 99999 := by decide
  have sb : at_sb (20 : Int32) a ↔ -99999 ≤ a.toInt ∧ a.toInt ≤ 99999 := by
    have b1 := t2_bnd ⟨20, by decide⟩
    dsimp only at b1
    unfold at_sb
    rw [c20, show (20 : Int).toNat = 20 by rfl, b1.1, b1.2, q20.1, q20.2]
    omega
  show fl_Tq (pw_P L xs) 114 0 [some (.inr (.inr (.inl (0, 0)))), some (.inl a), some (.inl b)] [] (f, l) _
  have no : ¬ ((-99999 ≤ a.toInt ∧ a.toInt ≤ 99999) ∧ (1 ≤ b.toInt ∧ b.toInt ≤ 99) ∧ (f 280 19).toInt < 24) → t2_Mid L xs 260 [at_this, .inl a, .inl b] (some (.inl (-1 : Int32))) (f, l) := fun hn => by
    refine ⟨Z.U, ⟨_, rfl⟩, ?_⟩
    show fl_Tq (pw_P L xs) 260 0 [some (.inr (.inr (.inl (76, 277)))), some (.inl a), some (.inl b)] [] (f, l) _
    refine y_piece_A (fun h1 => ⟨rfl, Z.2, Z.U⟩) (fun h1 h2 => ⟨rfl, Z.2, Z.U⟩) (fun h1 h2 h3 => ⟨rfl, Z.2, Z.U⟩) (fun h1 h2 h3 => ?_)
    rw [r_i0, cm9, c9] at h1
    rw [r_i0, c1, c99] at h2
    rw [c24] at h3
    omega
  refine x_piece_A ?_
  refine fl_Tq.cal rfl rfl (fl_bo rfl) rfl ?_
  refine at_x174 (fun z hz => ?_)
  have hz' : (¬ z.toInt = 0) ↔ -99999 ≤ a.toInt ∧ a.toInt ≤ 99999 := by
    rcases hz with ⟨rfl, h⟩ | ⟨rfl, h⟩
    · rw [c1]
      exact ⟨fun _ => sb.mp h, fun _ => by decide⟩
    · exact ⟨fun h2 => absurd c0 h2, fun h2 => absurd (sb.mpr h2) h⟩
  have ebp : (c0_bearsPiece_v f).toInt = 0 ↔ ¬ (f 280 19).toInt < 24 := by
    unfold c0_bearsPiece_v
    rw [e7, c24]
    split
    · rw [c1]; omega
    · rw [c0]; omega
  refine x_piece_A2 (fun h1 => no (fun h => absurd h1 (hz'.mpr h.1))) (fun _ h2 => no (by rw [t2_w0, c1, c99] at h2; omega)) (fun _ _ h3 => no (fun h => ebp.mp h3 h.2.2)) (fun h1 h2 h3 => ?_)
  have ha := hz'.mp h1
  rw [t2_w0, c1, c99, Classical.not_not] at h2
  have h19 : (f 280 19).toInt < 24 := Classical.not_not.mp (fun h => h3 (ebp.mpr h))
  refine fl_Tq.cal rfl rfl (fl_bo rfl) rfl ?_
  refine t2_ckeep Z (fun g l' C => ?_)
  have g37 : g 3 7 = f 280 19 := by rw [C.now (by decide) (by decide) (by decide)]; exact e7
  refine x_piece_B (by rw [g37]; omega) ?_
  have hF : ∀ p : Nat, 91 ≤ p → c0_addPiece_m g a b p = g p := fun p hp => c0_addPiece_fr (by omega) (by omega)
  have F280 := C.F280 hF
  refine ⟨fun p hp i => by show c0_addPiece_m g a b p i = _; rw [hF p (by have : fl_N l'.2 ≤ p := hp; unfold fl_N at this; omega)]; exact C.U Z.U p hp i, ⟨_, rfl⟩, ?_⟩
  show fl_Tq (pw_P L xs) 260 0 [some (.inr (.inr (.inl (76, 277)))), some (.inl a), some (.inl b)] [] _ _
  refine y_piece_A (fun h => ?_) (fun _ h => ?_) (fun _ _ h => ?_) (fun _ _ _ => ?_)
  · rw [r_i0, cm9, c9] at h
    omega
  · rw [r_i0, c1, c99] at h
    omega
  · rw [F280, c24] at h
    omega
  refine fl_Tq.cal rfl rfl (fl_bo rfl) rfl ?_
  refine Z.rkeep F280 (fun G hG K => ?_)
  have I0 := Z.I0 C F280 K
  have G19 : G 280 19 = f 280 19 := by rw [← g37]; exact I0.2.2.1.1.2.2.2.2.1.symm
  refine y_piece_B (by rw [G19]; omega) ?_
  have J := I0.piece (n := (G 280 19).toInt.toNat) (a := a) (b := b) (by rw [G19]; omega) (by rw [G19]; omega) ha h2
  have fin := Z.fin C hF K hG (H := fl_row G 280 (upd (upd (upd (G 280) (119 + (2 * ((G 280 19).toInt.toNat))) a) ((119 + (2 * ((G 280 19).toInt.toNat))) + 1) b) 19 ((G 280 19) + (1 : Int32)))) (fun p hp => fl_row_ne (by omega)) (by rw [fl_row_ne (by decide)]) (fun w hw => by rw [fl_row_self, upd_ne (by omega), upd_ne (by rw [G19]; omega), upd_ne (by rw [G19]; omega)]) J.1
  exact ⟨by unfold c0_addPiece_v; rw [J.2], fin.1, fin.2⟩
/-- zone -/
theorem t2_zone (Z : t2_Z (f, l)) : fl_Tq (pw_P L xs) 110 0 (fl_args (am_mxl (pw_P L xs) 110) [lx_x, .inl a, .inl b]) [] (f, l) (t2_Mid L xs 259 [at_this, .inl a, .inl b]) := by
  have I : c0_I f f := Z.2.1
  have c0 : (0 : Int32).toInt = 0 := rfl
  have c1 : (1 : Int32).toInt = 1 := by decide +kernel
  have c6 : (6 : Int32).toInt = 6 := by decide +kernel
  have cm4 : (-400 : Int32).toInt = -400 := by decide +kernel
  have c12 : (1200 : Int32).toInt = 1200 := by decide +kernel
  have c9 : (99999 : Int32).toInt = 99999 := by decide +kernel
  have e6 : f 3 6 = f 280 17 := I.2.2.1.1.2.1.1
  have n17 := I.2.2.2.2.2.2.2.1.1
  have z2 : ∀ k : Nat, k < 12 → f 7 k = f 280 (67 + k) := I.2.2.1.1.2.1.2.1
  have ej : (x_zone_A_j10_0 a b).toInt = 0 ↔ ¬ ((-400 ≤ a.toInt ∧ a.toInt ≤ 1200) ∧ 0 ≤ b.toInt ∧ b.toInt ≤ 99999) := by
    unfold x_zone_A_j10_0
    split
    · rename_i h
      rw [t2_w0, cm4, c12] at h
      rw [c0]; omega
    · rename_i h
      rw [t2_w0, cm4, c12] at h
      split
      · rename_i h2
        rw [t2_w0, c0, c9] at h2
        rw [c0]; omega
      · rename_i h2
        rw [t2_w0, c0, c9] at h2
        rw [c1]; omega
  have eb : (c0_bearsZone_v f a).toInt = 0 ↔ ¬ ((f 280 17).toInt < 6 ∧ (0 < (f 280 17).toInt → (f 280 ((67 + (2 * ((f 280 17).toInt.toNat))) - 2)).toInt < a.toInt)) := by
    unfold c0_bearsZone_v
    rw [e6, c6]
    by_cases h1 : (f 280 17).toInt < 6
    · rw [if_pos h1]
      by_cases h2 : (f 280 17).toInt = 0
      · rw [if_pos h2, c1]
        omega
      · have ez : f 7 (2 * (f 280 17).toInt.toNat - 2) = f 280 ((67 + (2 * ((f 280 17).toInt.toNat))) - 2) := by
          rw [z2 _ (by omega), show 67 + (2 * (f 280 17).toInt.toNat - 2) = 67 + 2 * (f 280 17).toInt.toNat - 2 by omega]
        rw [if_neg h2, ez]
        split
        · rw [c1]; omega
        · rw [c0]; omega
    · rw [if_neg h1, c0]
      omega
  show fl_Tq (pw_P L xs) 110 0 [some (.inr (.inr (.inl (0, 0)))), some (.inl a), some (.inl b), none] [] (f, l) _
  have no : ¬ (((-400 ≤ a.toInt ∧ a.toInt ≤ 1200) ∧ 0 ≤ b.toInt ∧ b.toInt ≤ 99999) ∧ (f 280 17).toInt < 6 ∧ (0 < (f 280 17).toInt → (f 280 ((67 + (2 * ((f 280 17).toInt.toNat))) - 2)).toInt < a.toInt)) → t2_Mid L xs 259 [at_this, .inl a, .inl b] (some (.inl (-1 : Int32))) (f, l) := fun hn => by
    refine ⟨Z.U, ⟨_, rfl⟩, ?_⟩
    show fl_Tq (pw_P L xs) 259 0 [some (.inr (.inr (.inl (76, 277)))), some (.inl a), some (.inl b)] [] (f, l) _
    refine y_zone_A (fun h1 => ⟨rfl, Z.2, Z.U⟩) (fun h1 h2 => ⟨rfl, Z.2, Z.U⟩) (fun h1 h2 h3 => ⟨rfl, Z.2, Z.U⟩) (fun h1 h2 h3 => ?_)
    rw [r_i0, cm4, c12] at h1
    rw [r_i0, c0, c9] at h2
    rw [c6] at h3
    refine y_zone_A1 (fun h4 => y_zone_A2 n17 h4 (fun h5 => ?_) (fun h5 => ⟨rfl, Z.2, Z.U⟩)) (fun h4 => ?_)
    · exact absurd (by omega) hn
    · exact absurd (by omega) hn
  refine x_zone_A (by rw [e6]; exact n17) (fun h1 => no (fun h => ej.mp h1 h.1)) (fun _ h2 => no (fun h => eb.mp h2 h.2)) (fun h1 h2 => ?_)
  have g1 := Classical.not_not.mp (fun h => h1 (ej.mpr h))
  have g2 := Classical.not_not.mp (fun h => h2 (eb.mpr h))
  refine fl_Tq.cal rfl rfl (fl_bo rfl) rfl ?_
  refine t2_ckeep Z (fun g l' C => ?_)
  have g36 : g 3 6 = f 280 17 := by rw [C.now (by decide) (by decide) (by decide)]; exact e6
  refine fl_Tq.fg (x_zone_B (by rw [g36]; omega) ?_) ⟨rfl, rfl, rfl, True.intro⟩
  have hF : ∀ p : Nat, 91 ≤ p → c0_addZone_m g a b p = g p := fun p hp => c0_addZone_fr (by omega) (by omega)
  have F280 := C.F280 hF
  refine ⟨fun p hp i => by show c0_addZone_m g a b p i = _; rw [hF p (by have : fl_N l'.2 ≤ p := hp; unfold fl_N at this; omega)]; exact C.U Z.U p hp i, ⟨_, rfl⟩, ?_⟩
  show fl_Tq (pw_P L xs) 259 0 [some (.inr (.inr (.inl (76, 277)))), some (.inl a), some (.inl b)] [] _ _
  generalize hFF : c0_addZone_m g a b = F at *
  have go : fl_Tq (pw_P L xs) 259 72 [some (.inr (.inr (.inl (76, 277)))), some (.inl a), some (.inl b)] [] (F, l') (fun v2 m2 => v2 = some (.inl (c0_addZone_v g a b)) ∧ t2_W m2.1 m2.1 m2.2.2 ∧ t2_U m2) := by
    refine y_zone_A3 ?_
    refine fl_Tq.cal rfl rfl (fl_bo rfl) rfl ?_
    refine Z.rkeep F280 (fun G hG K => ?_)
    have I0 := Z.I0 C F280 K
    have G17 : G 280 17 = f 280 17 := by rw [← g36]; exact I0.2.2.1.1.2.1.1.symm
    refine y_zone_B (by rw [G17]; omega) ?_
    have J := I0.zone (n := (G 280 17).toInt.toNat) (a := a) (b := b) (by rw [G17]; omega) (by rw [G17]; omega) g1.2.1
    rw [hFF] at J
    have fin := Z.fin C hF K hG (H := fl_row G 280 (upd (upd (upd (G 280) (67 + (2 * ((G 280 17).toInt.toNat))) a) ((67 + (2 * ((G 280 17).toInt.toNat))) + 1) b) 17 ((G 280 17) + (1 : Int32)))) (fun p hp => fl_row_ne (by omega)) (by rw [fl_row_ne (by decide)]) (fun w hw => by rw [fl_row_self, upd_ne (by omega), upd_ne (by rw [G17]; omega), upd_ne (by rw [G17]; omega)]) J.1
    exact ⟨by unfold c0_addZone_v; rw [J.2], fin.1, fin.2⟩
  refine y_zone_A (fun h => ?_) (fun _ h => ?_) (fun _ _ h => ?_) (fun _ _ _ => ?_)
  · rw [r_i0, cm4, c12] at h
    omega
  · rw [r_i0, c0, c9] at h
    omega
  · rw [F280, c6] at h
    omega
  refine y_zone_A1 (fun h4 => y_zone_A2 (by rw [F280]; exact n17) h4 (fun _ => go) (fun h5 => ?_)) (fun _ => go)
  rw [F280] at h4 h5
  exact absurd (g2.2 h4) h5
/-- rule -/
theorem t2_rule (Z : t2_Z (f, l)) : fl_Tq (pw_P L xs) 115 0 (fl_args (am_mxl (pw_P L xs) 115) [lx_x, .inl a, .inl b, .inl c, .inl d, .inl e]) [] (f, l) (t2_Mid L xs 261 [at_this, .inl a, .inl b, .inl c, .inl d, .inl e]) := by
  have I : c0_I f f := Z.2.1
  have c0 : (0 : Int32).toInt = 0 := rfl
  have c1 : (1 : Int32).toInt = 1 := by decide +kernel
  have c8 : (8 : Int32).toInt = 8 := by decide +kernel
  have c13 : (13 : Int32).toInt = 13 := by decide +kernel
  have B : ∀ j, f 278 j = (at_i0 278).getD j 0 := fun j => Z.1.2.2.2.2.2.2.2.2.2 278 j (Or.inl rfl)
  have e8 : f 3 8 = f 280 18 := I.2.2.1.1.2.2.1.1
  have n18 := I.2.2.2.2.2.2.2.2.1.1
  show fl_Tq (pw_P L xs) 115 0 [some (.inr (.inr (.inl (0, 0)))), some (.inl a), some (.inl b), some (.inl c), some (.inl d), some (.inl e)] [] (f, l) _
  have no : ¬ ((0 ≤ a.toInt ∧ a.toInt ≤ 13) ∧ at_sb d e ∧ (f 280 18).toInt < 8) → t2_Mid L xs 261 [at_this, .inl a, .inl b, .inl c, .inl d, .inl e] (some (.inl (-1 : Int32))) (f, l) := fun hn => by
    refine ⟨Z.U, ⟨_, rfl⟩, ?_⟩
    show fl_Tq (pw_P L xs) 261 0 [some (.inr (.inr (.inl (76, 277)))), some (.inl a), some (.inl b), some (.inl c), some (.inl d), some (.inl e), none] [] (f, l) _
    refine y_rule_A (fun h1 => ⟨rfl, Z.2, Z.U⟩) (fun h1 => ?_)
    refine fl_Tq.cal rfl rfl (fl_bo rfl) rfl ?_
    refine at_m246 B (fun z hz => ?_)
    refine y_rule_A2 (fun h2 => ⟨rfl, Z.2, Z.U⟩) (fun h2 h3 => ⟨rfl, Z.2, Z.U⟩) (fun h2 h3 => ?_)
    rw [r_i0, c0, c13, Classical.not_not] at h1
    rw [c8] at h3
    rcases hz with ⟨-, h⟩ | ⟨rfl, -⟩
    · exact absurd ⟨h1, h, by omega⟩ hn
    · exact absurd c0 h2
  have ebr : (c0_bearsRule_v f).toInt = 0 ↔ ¬ (f 280 18).toInt < 8 := by
    unfold c0_bearsRule_v
    rw [e8, c8]
    split
    · rw [c1]; omega
    · rw [c0]; omega
  refine x_rule_A (fun h1 => no (by rw [t2_w0, c0, c13] at h1; exact fun h => h1 h.1)) (fun h1 => ?_)
  rw [t2_w0, c0, c13, Classical.not_not] at h1
  refine fl_Tq.cal rfl rfl (fl_bo rfl) rfl ?_
  refine at_x174 (fun z hz => ?_)
  refine x_rule_A2 (fun h2 => no (fun h => ?_)) (fun _ h3 => no (fun h => ebr.mp h3 h.2.2)) (fun h2 h3 => ?_)
  · rcases hz with ⟨rfl, -⟩ | ⟨-, h3⟩
    · rw [c1] at h2; omega
    · exact h3 h.2.1
  have hs : at_sb d e := by
    rcases hz with ⟨-, h⟩ | ⟨rfl, -⟩
    · exact h
    · exact absurd c0 h2
  have h18 : (f 280 18).toInt < 8 := Classical.not_not.mp (fun h => h3 (ebr.mpr h))
  obtain ⟨hA, hA1, hv⟩ := t2_sbk hs
  refine fl_Tq.cal rfl rfl (fl_bo rfl) rfl ?_
  refine t2_ckeep Z (fun g l' C => ?_)
  have g38 : g 3 8 = f 280 18 := by rw [C.now (by decide) (by decide) (by decide)]; exact e8
  refine x_rule_B (by rw [g38]; omega) ?_
  generalize hbb : (if b.toInt = 0 then (0 : Int32) else (1 : Int32)) = bb
  have hF : ∀ p : Nat, 91 ≤ p → c0_addRule_m g a bb c d e p = g p := fun p hp => c0_addRule_fr (by omega) (by omega)
  have F280 := C.F280 hF
  refine ⟨fun p hp i => by show c0_addRule_m g a bb c d e p i = _; rw [hF p (by have : fl_N l'.2 ≤ p := hp; unfold fl_N at this; omega)]; exact C.U Z.U p hp i, ⟨_, rfl⟩, ?_⟩
  show fl_Tq (pw_P L xs) 261 0 [some (.inr (.inr (.inl (76, 277)))), some (.inl a), some (.inl b), some (.inl c), some (.inl d), some (.inl e), none] [] _ _
  refine y_rule_A (fun h => ?_) (fun _ => ?_)
  · rw [r_i0, c0, c13] at h
    omega
  refine fl_Tq.cal rfl rfl (fl_bo rfl) rfl ?_
  refine at_m246 (fun j => by show c0_addRule_m g a bb c d e 278 j = _; rw [hF 278 (by decide), C.now (by decide) (by decide) (by decide)]; exact B j) (fun z2 hz2 => ?_)
  refine y_rule_A2 (fun h => ?_) (fun _ h => ?_) (fun _ _ => ?_)
  · rcases hz2 with ⟨rfl, -⟩ | ⟨-, h2⟩
    · rw [c1] at h; omega
    · exact absurd hs h2
  · rw [F280, c8] at h
    omega
  refine fl_Tq.cal rfl rfl (fl_bo rfl) rfl ?_
  refine Z.rkeep F280 (fun G hG K => ?_)
  have I0 := Z.I0 C F280 K
  have G18 : G 280 18 = f 280 18 := by rw [← g38]; exact I0.2.2.1.1.2.2.1.1.symm
  refine y_rule_B (by rw [G18]; omega) ?_
  rw [hbb]
  have J := I0.rule (n := (G 280 18).toInt.toNat) (a := a) (b := bb) (c := c) (d := d) (e := e) (by rw [G18]; omega) (by rw [G18]; omega) (by omega) hv
  have fin := Z.fin C hF K hG (H := fl_row G 280 (upd (upd (upd (upd (upd (upd (G 280) (79 + (5 * ((G 280 18).toInt.toNat))) a) ((79 + (5 * ((G 280 18).toInt.toNat))) + 1) bb) ((79 + (5 * ((G 280 18).toInt.toNat))) + 2) c) ((79 + (5 * ((G 280 18).toInt.toNat))) + 3) d) ((79 + (5 * ((G 280 18).toInt.toNat))) + 4) e) 18 ((G 280 18) + (1 : Int32)))) (fun p hp => fl_row_ne (by omega)) (by rw [fl_row_ne (by decide)]) (fun w hw => by rw [G18, fl_row_self, upd_ne (by omega), upd_ne (by omega), upd_ne (by omega), upd_ne (by omega), upd_ne (by omega), upd_ne (by omega)]) J.1
  exact ⟨by unfold c0_addRule_v; rw [J.2], fin.1, fin.2⟩
end T2MQ2

end
