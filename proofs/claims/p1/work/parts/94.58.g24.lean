theorem t2_w01 {x lo hi : Int32} : t2_within_v x lo hi = 0 ∨ t2_within_v x lo hi = 1 := by
  unfold t2_within_v
  split
  · exact Or.inl rfl
  · split
    · exact Or.inl rfl
    · exact Or.inr rfl
theorem r_i01 {x lo hi : Int32} : r_isIn_v x lo hi = 0 ∨ r_isIn_v x lo hi = 1 := t2_w01
noncomputable def c0_hasCell_v (f : t2_F) (x : Int32) : Int32 := t2_within_v x (0 : Int32) ((f 1 5) - (1 : Int32))
theorem c0_hasCell_q {L : Nat} {xs : Nat → Int32} {f : t2_F} {l : t2_L} {Q : Option fl_V → fl_M → Prop} {x : Int32}  (k : Q (some (.inl (c0_hasCell_v f x))) (f, l)) : fl_Tq (pw_P L xs) 34 0 (fl_args (am_mxl (pw_P L xs) 34) [.inr (.inr (.inl (1, 1))), .inl x]) [] (f, l) Q := by
  refine fl_Tq.stp (pc' := 1) (lv' := [some (.inr (.inr (.inl (1, 1)))), some (.inl x)]) (st' := [.inl x]) (m' := (f, l)) rfl rfl (fl_bo rfl) rfl ?_
  refine fl_Tq.cI (c := (0 : Int32)) rfl (by decide +kernel) (fl_bo rfl) ?_
  refine fl_Tq.stp (pc' := 3) (lv' := [some (.inr (.inr (.inl (1, 1)))), some (.inl x)]) (st' := [.inr (.inr (.inl (1, 1))), .inl (0 : Int32), .inl x]) (m' := (f, l)) rfl rfl (fl_bo rfl) rfl ?_
  refine fl_Tq.gfV (k := 5) (v := f 1 5) rfl (fl_bo rfl) rfl rfl ?_
  refine fl_Tq.cI (c := (1 : Int32)) rfl (by decide +kernel) (fl_bo rfl) ?_
  refine fl_Tq.stp (pc' := 8) (lv' := [some (.inr (.inr (.inl (1, 1)))), some (.inl x)]) (st' := [.inl ((f 1 5) - (1 : Int32)), .inl (0 : Int32), .inl x]) (m' := (f, l)) rfl rfl (fl_bo rfl) rfl ?_
  refine fl_Tq.cal rfl rfl (fl_bo rfl) rfl ?_
  refine t2_within_q  ?_
  show fl_Tq _ 34 11 [some (.inr (.inr (.inl (1, 1)))), some (.inl x)] [.inl (t2_within_v x (0 : Int32) ((f 1 5) - (1 : Int32)))] (f, l) _
  exact fl_Tq.ret rfl rfl (if_pos t2_w01) k
noncomputable def r_isCell_v (f : t2_F) (x : Int32) : Int32 := r_isIn_v x (0 : Int32) ((f 280 2) - (1 : Int32))
theorem r_isCell_q {L : Nat} {xs : Nat → Int32} {f : t2_F} {l : t2_L} {Q : Option fl_V → fl_M → Prop} {x : Int32}  (k : Q (some (.inl (r_isCell_v f x))) (f, l)) : fl_Tq (pw_P L xs) 192 0 (fl_args (am_mxl (pw_P L xs) 192) [.inr (.inr (.inl (76, 277))), .inl x]) [] (f, l) Q := by
  refine fl_Tq.stp (pc' := 1) (lv' := [some (.inr (.inr (.inl (76, 277)))), some (.inl x)]) (st' := [.inl x]) (m' := (f, l)) rfl rfl (fl_bo rfl) rfl ?_
  refine fl_Tq.cI (c := (0 : Int32)) rfl (by decide +kernel) (fl_bo rfl) ?_
  refine fl_Tq.stp (pc' := 3) (lv' := [some (.inr (.inr (.inl (76, 277)))), some (.inl x)]) (st' := [.inr (.inr (.inl (76, 277))), .inl (0 : Int32), .inl x]) (m' := (f, l)) rfl rfl (fl_bo rfl) rfl ?_
  refine fl_Tq.stp (pc' := 6) (lv' := [some (.inr (.inr (.inl (76, 277)))), some (.inl x)]) (st' := [.inr (.inr (.inl (79, 280))), .inl (0 : Int32), .inl x]) (m' := (f, l)) rfl rfl (fl_bo rfl) rfl ?_
  refine fl_Tq.cI (c := (2 : Int32)) rfl (by decide +kernel) (fl_bo rfl) ?_
  refine fl_Tq.ldV (p := 280) (τ := 79) (n := 29780) (z := (0, 0, 0)) (k := 2) (v := f 280 2) rfl (fl_bo rfl) rfl (by decide +kernel) (by decide) rfl ?_
  refine fl_Tq.cI (c := (1 : Int32)) rfl (by decide +kernel) (fl_bo rfl) ?_
  refine fl_Tq.stp (pc' := 10) (lv' := [some (.inr (.inr (.inl (76, 277)))), some (.inl x)]) (st' := [.inl ((f 280 2) - (1 : Int32)), .inl (0 : Int32), .inl x]) (m' := (f, l)) rfl rfl (fl_bo rfl) rfl ?_
  refine fl_Tq.cal rfl rfl (fl_bo rfl) rfl ?_
  refine r_isIn_q  ?_
  show fl_Tq _ 192 13 [some (.inr (.inr (.inl (76, 277)))), some (.inl x)] [.inl (r_isIn_v x (0 : Int32) ((f 280 2) - (1 : Int32)))] (f, l) _
  exact fl_Tq.ret rfl rfl (if_pos r_i01) k
theorem x_hear_A {L : Nat} {xs : Nat → Int32} {f : t2_F} {l : t2_L} {Q : Option fl_V → fl_M → Prop}   (k : fl_Tq (pw_P L xs) 111 8 [some (.inr (.inr (.inl (0, 0)))), none] [.inr (.inr (.inl (1, 1))), .inr (.inr (.inl (73, 271)))] (f, l) Q) : fl_Tq (pw_P L xs) 111 0 [some (.inr (.inr (.inl (0, 0)))), none] [] (f, l) Q := by
  refine fl_Tq.stp (pc' := 1) (lv' := [some (.inr (.inr (.inl (0, 0)))), none]) (st' := [.inr (.inr (.inl (0, 0)))]) (m' := (f, l)) rfl rfl (fl_bo rfl) rfl ?_
  refine fl_Tq.stp (pc' := 4) (lv' := [some (.inr (.inr (.inl (0, 0)))), none]) (st' := [.inr (.inr (.inl (73, 271)))]) (m' := (f, l)) rfl rfl (fl_bo rfl) rfl ?_
  refine fl_Tq.stp (pc' := 5) (lv' := [some (.inr (.inr (.inl (0, 0)))), none]) (st' := [.inr (.inr (.inl (0, 0))), .inr (.inr (.inl (73, 271)))]) (m' := (f, l)) rfl rfl (fl_bo rfl) rfl ?_
  refine fl_Tq.stp (pc' := 8) (lv' := [some (.inr (.inr (.inl (0, 0)))), none]) (st' := [.inr (.inr (.inl (1, 1))), .inr (.inr (.inl (73, 271)))]) (m' := (f, l)) rfl rfl (fl_bo rfl) rfl ?_
  exact k
theorem x_hear_B {L : Nat} {xs : Nat → Int32} {f : t2_F} {l : t2_L} {Q : Option fl_V → fl_M → Prop}   (k : Q (some (.inl (f 10 4))) (fl_row f 10 (upd (f 10) 4 (0 : Int32)), l)) : fl_Tq (pw_P L xs) 111 11 [some (.inr (.inr (.inl (0, 0)))), none] [] (f, l) Q := by
  refine fl_Tq.stp (pc' := 12) (lv' := [some (.inr (.inr (.inl (0, 0)))), none]) (st' := [.inr (.inr (.inl (0, 0)))]) (m' := (f, l)) rfl rfl (fl_bo rfl) rfl ?_
  refine fl_Tq.stp (pc' := 15) (lv' := [some (.inr (.inr (.inl (0, 0)))), none]) (st' := [.inr (.inr (.inl (1, 1)))]) (m' := (f, l)) rfl rfl (fl_bo rfl) rfl ?_
  refine fl_Tq.stp (pc' := 18) (lv' := [some (.inr (.inr (.inl (0, 0)))), none]) (st' := [.inr (.inr (.inl (10, 10)))]) (m' := (f, l)) rfl rfl (fl_bo rfl) rfl ?_
  refine fl_Tq.gfV (k := 4) (v := f 10 4) rfl (fl_bo rfl) rfl rfl ?_
  refine fl_Tq.stp (pc' := 22) (lv' := [some (.inr (.inr (.inl (0, 0)))), some (.inl (f 10 4))]) (st' := []) (m' := (f, l)) rfl rfl (fl_bo rfl) rfl ?_
  refine fl_Tq.stp (pc' := 23) (lv' := [some (.inr (.inr (.inl (0, 0)))), some (.inl (f 10 4))]) (st' := [.inr (.inr (.inl (0, 0)))]) (m' := (f, l)) rfl rfl (fl_bo rfl) rfl ?_
  refine fl_Tq.stp (pc' := 26) (lv' := [some (.inr (.inr (.inl (0, 0)))), some (.inl (f 10 4))]) (st' := [.inr (.inr (.inl (1, 1)))]) (m' := (f, l)) rfl rfl (fl_bo rfl) rfl ?_
  refine fl_Tq.stp (pc' := 29) (lv' := [some (.inr (.inr (.inl (0, 0)))), some (.inl (f 10 4))]) (st' := [.inr (.inr (.inl (10, 10)))]) (m' := (f, l)) rfl rfl (fl_bo rfl) rfl ?_
  refine fl_Tq.cI (c := (0 : Int32)) rfl (by decide +kernel) (fl_bo rfl) ?_
  refine fl_Tq.pfV (k := 4) (m' := (fl_row f 10 (upd (f 10) 4 (0 : Int32)), l)) rfl (fl_bo rfl) rfl (t2_upn rfl) ?_
  refine fl_Tq.stp (pc' := 34) (lv' := [some (.inr (.inr (.inl (0, 0)))), some (.inl (f 10 4))]) (st' := [.inl (f 10 4)]) (m' := (fl_row f 10 (upd (f 10) 4 (0 : Int32)), l)) rfl rfl (fl_bo rfl) rfl ?_
  exact fl_Tq.ret rfl rfl rfl k
theorem x_unrule_A {L : Nat} {xs : Nat → Int32} {f : t2_F} {l : t2_L} {Q : Option fl_V → fl_M → Prop}   (k : fl_Tq (pw_P L xs) 116 8 [some (.inr (.inr (.inl (0, 0)))), none] [.inr (.inr (.inl (1, 1))), .inr (.inr (.inl (73, 271)))] (f, l) Q) : fl_Tq (pw_P L xs) 116 0 [some (.inr (.inr (.inl (0, 0)))), none] [] (f, l) Q := by
  refine fl_Tq.stp (pc' := 1) (lv' := [some (.inr (.inr (.inl (0, 0)))), none]) (st' := [.inr (.inr (.inl (0, 0)))]) (m' := (f, l)) rfl rfl (fl_bo rfl) rfl ?_
  refine fl_Tq.stp (pc' := 4) (lv' := [some (.inr (.inr (.inl (0, 0)))), none]) (st' := [.inr (.inr (.inl (73, 271)))]) (m' := (f, l)) rfl rfl (fl_bo rfl) rfl ?_
  refine fl_Tq.stp (pc' := 5) (lv' := [some (.inr (.inr (.inl (0, 0)))), none]) (st' := [.inr (.inr (.inl (0, 0))), .inr (.inr (.inl (73, 271)))]) (m' := (f, l)) rfl rfl (fl_bo rfl) rfl ?_
  refine fl_Tq.stp (pc' := 8) (lv' := [some (.inr (.inr (.inl (0, 0)))), none]) (st' := [.inr (.inr (.inl (1, 1))), .inr (.inr (.inl (73, 271)))]) (m' := (f, l)) rfl rfl (fl_bo rfl) rfl ?_
  exact k
theorem x_unrule_B {L : Nat} {xs : Nat → Int32} {f : t2_F} {l : t2_L} {Q : Option fl_V → fl_M → Prop}   (k : Q (some (.inl (f 3 8))) (fl_row f 3 (upd (f 3) 8 (0 : Int32)), l)) : fl_Tq (pw_P L xs) 116 11 [some (.inr (.inr (.inl (0, 0)))), none] [] (f, l) Q := by
  refine fl_Tq.stp (pc' := 12) (lv' := [some (.inr (.inr (.inl (0, 0)))), none]) (st' := [.inr (.inr (.inl (0, 0)))]) (m' := (f, l)) rfl rfl (fl_bo rfl) rfl ?_
  refine fl_Tq.stp (pc' := 15) (lv' := [some (.inr (.inr (.inl (0, 0)))), none]) (st' := [.inr (.inr (.inl (1, 1)))]) (m' := (f, l)) rfl rfl (fl_bo rfl) rfl ?_
  refine fl_Tq.stp (pc' := 18) (lv' := [some (.inr (.inr (.inl (0, 0)))), none]) (st' := [.inr (.inr (.inl (3, 3)))]) (m' := (f, l)) rfl rfl (fl_bo rfl) rfl ?_
  refine fl_Tq.gfV (k := 8) (v := f 3 8) rfl (fl_bo rfl) rfl rfl ?_
  refine fl_Tq.stp (pc' := 22) (lv' := [some (.inr (.inr (.inl (0, 0)))), some (.inl (f 3 8))]) (st' := []) (m' := (f, l)) rfl rfl (fl_bo rfl) rfl ?_
  refine fl_Tq.stp (pc' := 23) (lv' := [some (.inr (.inr (.inl (0, 0)))), some (.inl (f 3 8))]) (st' := [.inr (.inr (.inl (0, 0)))]) (m' := (f, l)) rfl rfl (fl_bo rfl) rfl ?_
  refine fl_Tq.stp (pc' := 26) (lv' := [some (.inr (.inr (.inl (0, 0)))), some (.inl (f 3 8))]) (st' := [.inr (.inr (.inl (1, 1)))]) (m' := (f, l)) rfl rfl (fl_bo rfl) rfl ?_
  refine fl_Tq.stp (pc' := 29) (lv' := [some (.inr (.inr (.inl (0, 0)))), some (.inl (f 3 8))]) (st' := [.inr (.inr (.inl (3, 3)))]) (m' := (f, l)) rfl rfl (fl_bo rfl) rfl ?_
  refine fl_Tq.cI (c := (0 : Int32)) rfl (by decide +kernel) (fl_bo rfl) ?_
  refine fl_Tq.pfV (k := 8) (m' := (fl_row f 3 (upd (f 3) 8 (0 : Int32)), l)) rfl (fl_bo rfl) rfl (t2_upn rfl) ?_
  refine fl_Tq.stp (pc' := 34) (lv' := [some (.inr (.inr (.inl (0, 0)))), some (.inl (f 3 8))]) (st' := [.inl (f 3 8)]) (m' := (fl_row f 3 (upd (f 3) 8 (0 : Int32)), l)) rfl rfl (fl_bo rfl) rfl ?_
  exact fl_Tq.ret rfl rfl rfl k
theorem x_wipe_A {L : Nat} {xs : Nat → Int32} {f : t2_F} {l : t2_L} {Q : Option fl_V → fl_M → Prop}   (k : fl_Tq (pw_P L xs) 117 8 [some (.inr (.inr (.inl (0, 0)))), none] [.inr (.inr (.inl (1, 1))), .inr (.inr (.inl (73, 271)))] (f, l) Q) : fl_Tq (pw_P L xs) 117 0 [some (.inr (.inr (.inl (0, 0)))), none] [] (f, l) Q := by
  refine fl_Tq.stp (pc' := 1) (lv' := [some (.inr (.inr (.inl (0, 0)))), none]) (st' := [.inr (.inr (.inl (0, 0)))]) (m' := (f, l)) rfl rfl (fl_bo rfl) rfl ?_
  refine fl_Tq.stp (pc' := 4) (lv' := [some (.inr (.inr (.inl (0, 0)))), none]) (st' := [.inr (.inr (.inl (73, 271)))]) (m' := (f, l)) rfl rfl (fl_bo rfl) rfl ?_
  refine fl_Tq.stp (pc' := 5) (lv' := [some (.inr (.inr (.inl (0, 0)))), none]) (st' := [.inr (.inr (.inl (0, 0))), .inr (.inr (.inl (73, 271)))]) (m' := (f, l)) rfl rfl (fl_bo rfl) rfl ?_
  refine fl_Tq.stp (pc' := 8) (lv' := [some (.inr (.inr (.inl (0, 0)))), none]) (st' := [.inr (.inr (.inl (1, 1))), .inr (.inr (.inl (73, 271)))]) (m' := (f, l)) rfl rfl (fl_bo rfl) rfl ?_
  exact k
theorem x_wipe_B {L : Nat} {xs : Nat → Int32} {f : t2_F} {l : t2_L} {Q : Option fl_V → fl_M → Prop}   (k : Q (some (.inl (f 3 7))) (fl_row f 3 (upd (f 3) 7 (0 : Int32)), l)) : fl_Tq (pw_P L xs) 117 11 [some (.inr (.inr (.inl (0, 0)))), none] [] (f, l) Q := by
  refine fl_Tq.stp (pc' := 12) (lv' := [some (.inr (.inr (.inl (0, 0)))), none]) (st' := [.inr (.inr (.inl (0, 0)))]) (m' := (f, l)) rfl rfl (fl_bo rfl) rfl ?_
  refine fl_Tq.stp (pc' := 15) (lv' := [some (.inr (.inr (.inl (0, 0)))), none]) (st' := [.inr (.inr (.inl (1, 1)))]) (m' := (f, l)) rfl rfl (fl_bo rfl) rfl ?_
  refine fl_Tq.stp (pc' := 18) (lv' := [some (.inr (.inr (.inl (0, 0)))), none]) (st' := [.inr (.inr (.inl (3, 3)))]) (m' := (f, l)) rfl rfl (fl_bo rfl) rfl ?_
  refine fl_Tq.gfV (k := 7) (v := f 3 7) rfl (fl_bo rfl) rfl rfl ?_
  refine fl_Tq.stp (pc' := 22) (lv' := [some (.inr (.inr (.inl (0, 0)))), some (.inl (f 3 7))]) (st' := []) (m' := (f, l)) rfl rfl (fl_bo rfl) rfl ?_
  refine fl_Tq.stp (pc' := 23) (lv' := [some (.inr (.inr (.inl (0, 0)))), some (.inl (f 3 7))]) (st' := [.inr (.inr (.inl (0, 0)))]) (m' := (f, l)) rfl rfl (fl_bo rfl) rfl ?_
  refine fl_Tq.stp (pc' := 26) (lv' := [some (.inr (.inr (.inl (0, 0)))), some (.inl (f 3 7))]) (st' := [.inr (.inr (.inl (1, 1)))]) (m' := (f, l)) rfl rfl (fl_bo rfl) rfl ?_
  refine fl_Tq.stp (pc' := 29) (lv' := [some (.inr (.inr (.inl (0, 0)))), some (.inl (f 3 7))]) (st' := [.inr (.inr (.inl (3, 3)))]) (m' := (f, l)) rfl rfl (fl_bo rfl) rfl ?_
  refine fl_Tq.cI (c := (0 : Int32)) rfl (by decide +kernel) (fl_bo rfl) ?_
  refine fl_Tq.pfV (k := 7) (m' := (fl_row f 3 (upd (f 3) 7 (0 : Int32)), l)) rfl (fl_bo rfl) rfl (t2_upn rfl) ?_
  refine fl_Tq.stp (pc' := 34) (lv' := [some (.inr (.inr (.inl (0, 0)))), some (.inl (f 3 7))]) (st' := [.inl (f 3 7)]) (m' := (fl_row f 3 (upd (f 3) 7 (0 : Int32)), l)) rfl rfl (fl_bo rfl) rfl ?_
  exact fl_Tq.ret rfl rfl rfl k
theorem x_undo_A {L : Nat} {xs : Nat → Int32} {f : t2_F} {l : t2_L} {Q : Option fl_V → fl_M → Prop}   (k : ((f 271 2).toInt = 0) → Q (some (.inl (-1 : Int32))) (f, l)) (k1 : (¬ ((f 271 2).toInt = 0)) → fl_Tq (pw_P L xs) 119 20 [some (.inr (.inr (.inl (0, 0))))] [.inr (.inr (.inl (1, 1))), .inr (.inr (.inl (73, 271)))] (f, l) Q) : fl_Tq (pw_P L xs) 119 0 [some (.inr (.inr (.inl (0, 0))))] [] (f, l) Q := by
  refine fl_Tq.stp (pc' := 1) (lv' := [some (.inr (.inr (.inl (0, 0))))]) (st' := [.inr (.inr (.inl (0, 0)))]) (m' := (f, l)) rfl rfl (fl_bo rfl) rfl ?_
  refine fl_Tq.stp (pc' := 4) (lv' := [some (.inr (.inr (.inl (0, 0))))]) (st' := [.inr (.inr (.inl (73, 271)))]) (m' := (f, l)) rfl rfl (fl_bo rfl) rfl ?_
  refine fl_Tq.gfV (k := 2) (v := f 271 2) rfl (fl_bo rfl) rfl rfl ?_
  by_cases h1 : (f 271 2).toInt = 0
  · refine fl_Tq.zf rfl (fl_bo rfl) (c1_ne_f h1) rfl ?_
    refine fl_Tq.cI (c := (-1 : Int32)) rfl (by decide +kernel) (fl_bo rfl) ?_
    exact fl_Tq.ret rfl rfl rfl (k h1)
  · refine fl_Tq.zt rfl (fl_bo rfl) (c1_ne_t h1) rfl ?_
    refine fl_Tq.stp (pc' := 13) (lv' := [some (.inr (.inr (.inl (0, 0))))]) (st' := [.inr (.inr (.inl (0, 0)))]) (m' := (f, l)) rfl rfl (fl_bo rfl) rfl ?_
    refine fl_Tq.stp (pc' := 16) (lv' := [some (.inr (.inr (.inl (0, 0))))]) (st' := [.inr (.inr (.inl (73, 271)))]) (m' := (f, l)) rfl rfl (fl_bo rfl) rfl ?_
    refine fl_Tq.stp (pc' := 17) (lv' := [some (.inr (.inr (.inl (0, 0))))]) (st' := [.inr (.inr (.inl (0, 0))), .inr (.inr (.inl (73, 271)))]) (m' := (f, l)) rfl rfl (fl_bo rfl) rfl ?_
    refine fl_Tq.stp (pc' := 20) (lv' := [some (.inr (.inr (.inl (0, 0))))]) (st' := [.inr (.inr (.inl (1, 1))), .inr (.inr (.inl (73, 271)))]) (m' := (f, l)) rfl rfl (fl_bo rfl) rfl ?_
    exact k1 h1
theorem x_undo_B {L : Nat} {xs : Nat → Int32} {f : t2_F} {l : t2_L} {Q : Option fl_V → fl_M → Prop}   (k : Q (some (.inl (f 271 2))) (f, l)) : fl_Tq (pw_P L xs) 119 23 [some (.inr (.inr (.inl (0, 0))))] [] (f, l) Q := by
  refine fl_Tq.stp (pc' := 24) (lv' := [some (.inr (.inr (.inl (0, 0))))]) (st' := [.inr (.inr (.inl (0, 0)))]) (m' := (f, l)) rfl rfl (fl_bo rfl) rfl ?_
  refine fl_Tq.stp (pc' := 27) (lv' := [some (.inr (.inr (.inl (0, 0))))]) (st' := [.inr (.inr (.inl (73, 271)))]) (m' := (f, l)) rfl rfl (fl_bo rfl) rfl ?_
  refine fl_Tq.gfV (k := 2) (v := f 271 2) rfl (fl_bo rfl) rfl rfl ?_
  exact fl_Tq.ret rfl rfl rfl k
theorem x_image_A {L : Nat} {xs : Nat → Int32} {f : t2_F} {l : t2_L} {Q : Option fl_V → fl_M → Prop}   (k : fl_Tq (pw_P L xs) 120 8 [some (.inr (.inr (.inl (0, 0))))] [.inr (.inr (.inl (1, 1))), .inr (.inr (.inl (25, 91)))] (f, l) Q) : fl_Tq (pw_P L xs) 120 0 [some (.inr (.inr (.inl (0, 0))))] [] (f, l) Q := by
  refine fl_Tq.stp (pc' := 1) (lv' := [some (.inr (.inr (.inl (0, 0))))]) (st' := [.inr (.inr (.inl (0, 0)))]) (m' := (f, l)) rfl rfl (fl_bo rfl) rfl ?_
  refine fl_Tq.stp (pc' := 4) (lv' := [some (.inr (.inr (.inl (0, 0))))]) (st' := [.inr (.inr (.inl (25, 91)))]) (m' := (f, l)) rfl rfl (fl_bo rfl) rfl ?_
  refine fl_Tq.stp (pc' := 5) (lv' := [some (.inr (.inr (.inl (0, 0))))]) (st' := [.inr (.inr (.inl (0, 0))), .inr (.inr (.inl (25, 91)))]) (m' := (f, l)) rfl rfl (fl_bo rfl) rfl ?_
  refine fl_Tq.stp (pc' := 8) (lv' := [some (.inr (.inr (.inl (0, 0))))]) (st' := [.inr (.inr (.inl (1, 1))), .inr (.inr (.inl (25, 91)))]) (m' := (f, l)) rfl rfl (fl_bo rfl) rfl ?_
  exact k
theorem x_image_B {L : Nat} {xs : Nat → Int32} {f : t2_F} {l : t2_L} {Q : Option fl_V → fl_M → Prop}   (k : fl_Tq (pw_P L xs) 120 19 [some (.inr (.inr (.inl (0, 0))))] [.inr (.inr (.inl (73, 271))), .inr (.inr (.inl (73, 273)))] (f, l) Q) : fl_Tq (pw_P L xs) 120 11 [some (.inr (.inr (.inl (0, 0))))] [] (f, l) Q := by
  refine fl_Tq.stp (pc' := 12) (lv' := [some (.inr (.inr (.inl (0, 0))))]) (st' := [.inr (.inr (.inl (0, 0)))]) (m' := (f, l)) rfl rfl (fl_bo rfl) rfl ?_
  refine fl_Tq.stp (pc' := 15) (lv' := [some (.inr (.inr (.inl (0, 0))))]) (st' := [.inr (.inr (.inl (73, 273)))]) (m' := (f, l)) rfl rfl (fl_bo rfl) rfl ?_
  refine fl_Tq.stp (pc' := 16) (lv' := [some (.inr (.inr (.inl (0, 0))))]) (st' := [.inr (.inr (.inl (0, 0))), .inr (.inr (.inl (73, 273)))]) (m' := (f, l)) rfl rfl (fl_bo rfl) rfl ?_
  refine fl_Tq.stp (pc' := 19) (lv' := [some (.inr (.inr (.inl (0, 0))))]) (st' := [.inr (.inr (.inl (73, 271))), .inr (.inr (.inl (73, 273)))]) (m' := (f, l)) rfl rfl (fl_bo rfl) rfl ?_
  exact k
theorem x_image_C {L : Nat} {xs : Nat → Int32} {f : t2_F} {l : t2_L} {Q : Option fl_V → fl_M → Prop}   (k : Q (some (.inl (f 1 6))) (f, l)) : fl_Tq (pw_P L xs) 120 22 [some (.inr (.inr (.inl (0, 0))))] [] (f, l) Q := by
  refine fl_Tq.stp (pc' := 23) (lv' := [some (.inr (.inr (.inl (0, 0))))]) (st' := [.inr (.inr (.inl (0, 0)))]) (m' := (f, l)) rfl rfl (fl_bo rfl) rfl ?_
  refine fl_Tq.stp (pc' := 26) (lv' := [some (.inr (.inr (.inl (0, 0))))]) (st' := [.inr (.inr (.inl (1, 1)))]) (m' := (f, l)) rfl rfl (fl_bo rfl) rfl ?_
  refine fl_Tq.gfV (k := 6) (v := f 1 6) rfl (fl_bo rfl) rfl rfl ?_
  exact fl_Tq.ret rfl rfl rfl k
theorem x_back_A {L : Nat} {xs : Nat → Int32} {f : t2_F} {l : t2_L} {Q : Option fl_V → fl_M → Prop}   (k : fl_Tq (pw_P L xs) 121 8 [some (.inr (.inr (.inl (0, 0))))] [.inr (.inr (.inl (25, 91))), .inr (.inr (.inl (1, 1)))] (f, l) Q) : fl_Tq (pw_P L xs) 121 0 [some (.inr (.inr (.inl (0, 0))))] [] (f, l) Q := by
  refine fl_Tq.stp (pc' := 1) (lv' := [some (.inr (.inr (.inl (0, 0))))]) (st' := [.inr (.inr (.inl (0, 0)))]) (m' := (f, l)) rfl rfl (fl_bo rfl) rfl ?_
  refine fl_Tq.stp (pc' := 4) (lv' := [some (.inr (.inr (.inl (0, 0))))]) (st' := [.inr (.inr (.inl (1, 1)))]) (m' := (f, l)) rfl rfl (fl_bo rfl) rfl ?_
  refine fl_Tq.stp (pc' := 5) (lv' := [some (.inr (.inr (.inl (0, 0))))]) (st' := [.inr (.inr (.inl (0, 0))), .inr (.inr (.inl (1, 1)))]) (m' := (f, l)) rfl rfl (fl_bo rfl) rfl ?_
  refine fl_Tq.stp (pc' := 8) (lv' := [some (.inr (.inr (.inl (0, 0))))]) (st' := [.inr (.inr (.inl (25, 91))), .inr (.inr (.inl (1, 1)))]) (m' := (f, l)) rfl rfl (fl_bo rfl) rfl ?_
  exact k
theorem x_back_B {L : Nat} {xs : Nat → Int32} {f : t2_F} {l : t2_L} {Q : Option fl_V → fl_M → Prop}   (k : fl_Tq (pw_P L xs) 121 19 [some (.inr (.inr (.inl (0, 0))))] [.inr (.inr (.inl (73, 273))), .inr (.inr (.inl (73, 271)))] (f, l) Q) : fl_Tq (pw_P L xs) 121 11 [some (.inr (.inr (.inl (0, 0))))] [] (f, l) Q := by
  refine fl_Tq.stp (pc' := 12) (lv' := [some (.inr (.inr (.inl (0, 0))))]) (st' := [.inr (.inr (.inl (0, 0)))]) (m' := (f, l)) rfl rfl (fl_bo rfl) rfl ?_
  refine fl_Tq.stp (pc' := 15) (lv' := [some (.inr (.inr (.inl (0, 0))))]) (st' := [.inr (.inr (.inl (73, 271)))]) (m' := (f, l)) rfl rfl (fl_bo rfl) rfl ?_
  refine fl_Tq.stp (pc' := 16) (lv' := [some (.inr (.inr (.inl (0, 0))))]) (st' := [.inr (.inr (.inl (0, 0))), .inr (.inr (.inl (73, 271)))]) (m' := (f, l)) rfl rfl (fl_bo rfl) rfl ?_
  refine fl_Tq.stp (pc' := 19) (lv' := [some (.inr (.inr (.inl (0, 0))))]) (st' := [.inr (.inr (.inl (73, 273))), .inr (.inr (.inl (73, 271)))]) (m' := (f, l)) rfl rfl (fl_bo rfl) rfl ?_
  exact k
theorem x_back_C {L : Nat} {xs : Nat → Int32} {f : t2_F} {l : t2_L} {Q : Option fl_V → fl_M → Prop}   (k : Q (some (.inl (f 1 6))) (f, l)) : fl_Tq (pw_P L xs) 121 22 [some (.inr (.inr (.inl (0, 0))))] [] (f, l) Q := by
  refine fl_Tq.stp (pc' := 23) (lv' := [some (.inr (.inr (.inl (0, 0))))]) (st' := [.inr (.inr (.inl (0, 0)))]) (m' := (f, l)) rfl rfl (fl_bo rfl) rfl ?_
  refine fl_Tq.stp (pc' := 26) (lv' := [some (.inr (.inr (.inl (0, 0))))]) (st' := [.inr (.inr (.inl (1, 1)))]) (m' := (f, l)) rfl rfl (fl_bo rfl) rfl ?_
  refine fl_Tq.gfV (k := 6) (v := f 1 6) rfl (fl_bo rfl) rfl rfl ?_
  exact fl_Tq.ret rfl rfl rfl k
theorem x_close_A {L : Nat} {xs : Nat → Int32} {f : t2_F} {l : t2_L} {Q : Option fl_V → fl_M → Prop}   (k : ((f 1 7).toInt = 0) → ((f 10 3).toInt = 0) → ((f 1 5).toInt = 0) → Q (some (.inl (0 : Int32))) (f, l)) (k1 : ((f 1 7).toInt = 0) → ((f 10 3).toInt = 0) → (¬ ((f 1 5).toInt = 0)) → fl_Tq (pw_P L xs) 106 43 [some (.inr (.inr (.inl (0, 0))))] [.inr (.inr (.inl (1, 1))), .inr (.inr (.inl (73, 271)))] (f, l) Q) (k2 : ((f 1 7).toInt = 0) → (¬ ((f 10 3).toInt = 0)) → Q (some (.inl (0 : Int32))) (f, l)) (k3 : (¬ ((f 1 7).toInt = 0)) → Q (some (.inl (0 : Int32))) (f, l)) : fl_Tq (pw_P L xs) 106 0 [some (.inr (.inr (.inl (0, 0))))] [] (f, l) Q := by
  refine fl_Tq.stp (pc' := 1) (lv' := [some (.inr (.inr (.inl (0, 0))))]) (st' := [.inr (.inr (.inl (0, 0)))]) (m' := (f, l)) rfl rfl (fl_bo rfl) rfl ?_
  refine fl_Tq.stp (pc' := 4) (lv' := [some (.inr (.inr (.inl (0, 0))))]) (st' := [.inr (.inr (.inl (1, 1)))]) (m' := (f, l)) rfl rfl (fl_bo rfl) rfl ?_
  refine fl_Tq.gfV (k := 7) (v := f 1 7) rfl (fl_bo rfl) rfl rfl ?_
  by_cases h1 : (f 1 7).toInt = 0
  · refine fl_Tq.zf rfl (fl_bo rfl) (c1_ne_f h1) rfl ?_
    refine fl_Tq.stp (pc' := 11) (lv' := [some (.inr (.inr (.inl (0, 0))))]) (st' := [.inr (.inr (.inl (0, 0)))]) (m' := (f, l)) rfl rfl (fl_bo rfl) rfl ?_
    refine fl_Tq.stp (pc' := 14) (lv' := [some (.inr (.inr (.inl (0, 0))))]) (st' := [.inr (.inr (.inl (1, 1)))]) (m' := (f, l)) rfl rfl (fl_bo rfl) rfl ?_
    refine fl_Tq.stp (pc' := 17) (lv' := [some (.inr (.inr (.inl (0, 0))))]) (st' := [.inr (.inr (.inl (10, 10)))]) (m' := (f, l)) rfl rfl (fl_bo rfl) rfl ?_
    refine fl_Tq.gfV (k := 3) (v := f 10 3) rfl (fl_bo rfl) rfl rfl ?_
    by_cases h2 : (f 10 3).toInt = 0
    · refine fl_Tq.zf rfl (fl_bo rfl) (c1_ne_f h2) rfl ?_
      refine fl_Tq.stp (pc' := 24) (lv' := [some (.inr (.inr (.inl (0, 0))))]) (st' := [.inr (.inr (.inl (0, 0)))]) (m' := (f, l)) rfl rfl (fl_bo rfl) rfl ?_
      refine fl_Tq.stp (pc' := 27) (lv' := [some (.inr (.inr (.inl (0, 0))))]) (st' := [.inr (.inr (.inl (1, 1)))]) (m' := (f, l)) rfl rfl (fl_bo rfl) rfl ?_
      refine fl_Tq.gfV (k := 5) (v := f 1 5) rfl (fl_bo rfl) rfl rfl ?_
      by_cases h3 : (f 1 5).toInt = 0
      · refine fl_Tq.zf rfl (fl_bo rfl) (c1_ne_f h3) rfl ?_
        refine fl_Tq.cI (c := (0 : Int32)) rfl (by decide +kernel) (fl_bo rfl) ?_
        exact fl_Tq.ret rfl rfl rfl (k h1 h2 h3)
      · refine fl_Tq.zt rfl (fl_bo rfl) (c1_ne_t h3) rfl ?_
        refine fl_Tq.stp (pc' := 36) (lv' := [some (.inr (.inr (.inl (0, 0))))]) (st' := [.inr (.inr (.inl (0, 0)))]) (m' := (f, l)) rfl rfl (fl_bo rfl) rfl ?_
        refine fl_Tq.stp (pc' := 39) (lv' := [some (.inr (.inr (.inl (0, 0))))]) (st' := [.inr (.inr (.inl (73, 271)))]) (m' := (f, l)) rfl rfl (fl_bo rfl) rfl ?_
        refine fl_Tq.stp (pc' := 40) (lv' := [some (.inr (.inr (.inl (0, 0))))]) (st' := [.inr (.inr (.inl (0, 0))), .inr (.inr (.inl (73, 271)))]) (m' := (f, l)) rfl rfl (fl_bo rfl) rfl ?_
        refine fl_Tq.stp (pc' := 43) (lv' := [some (.inr (.inr (.inl (0, 0))))]) (st' := [.inr (.inr (.inl (1, 1))), .inr (.inr (.inl (73, 271)))]) (m' := (f, l)) rfl rfl (fl_bo rfl) rfl ?_
        exact k1 h1 h2 h3
    · refine fl_Tq.zt rfl (fl_bo rfl) (c1_ne_t h2) rfl ?_
      refine fl_Tq.cI (c := (0 : Int32)) rfl (by decide +kernel) (fl_bo rfl) ?_
      exact fl_Tq.ret rfl rfl rfl (k2 h1 h2)
  · refine fl_Tq.zt rfl (fl_bo rfl) (c1_ne_t h1) rfl ?_
    refine fl_Tq.cI (c := (0 : Int32)) rfl (by decide +kernel) (fl_bo rfl) ?_
    exact fl_Tq.ret rfl rfl rfl (k3 h1)
theorem x_close_B {L : Nat} {xs : Nat → Int32} {f : t2_F} {l : t2_L} {Q : Option fl_V → fl_M → Prop}   (k : Q (some (.inl (1 : Int32))) (fl_row f 1 (upd (f 1) 7 (1 : Int32)), l)) : fl_Tq (pw_P L xs) 106 46 [some (.inr (.inr (.inl (0, 0))))] [] (f, l) Q := by
  refine fl_Tq.stp (pc' := 47) (lv' := [some (.inr (.inr (.inl (0, 0))))]) (st' := [.inr (.inr (.inl (0, 0)))]) (m' := (f, l)) rfl rfl (fl_bo rfl) rfl ?_
  refine fl_Tq.stp (pc' := 50) (lv' := [some (.inr (.inr (.inl (0, 0))))]) (st' := [.inr (.inr (.inl (1, 1)))]) (m' := (f, l)) rfl rfl (fl_bo rfl) rfl ?_
  refine fl_Tq.cI (c := (1 : Int32)) rfl (by decide +kernel) (fl_bo rfl) ?_
  refine fl_Tq.pfV (k := 7) (m' := (fl_row f 1 (upd (f 1) 7 (1 : Int32)), l)) rfl (fl_bo rfl) rfl (t2_upn rfl) ?_
  refine fl_Tq.cI (c := (1 : Int32)) rfl (by decide +kernel) (fl_bo rfl) ?_
  exact fl_Tq.ret rfl rfl rfl k
theorem x_open_A {L : Nat} {xs : Nat → Int32} {f : t2_F} {l : t2_L} {Q : Option fl_V → fl_M → Prop}   (k : ((f 1 7).toInt = 0) → Q (some (.inl (0 : Int32))) (f, l)) (k1 : (¬ ((f 1 7).toInt = 0)) → fl_Tq (pw_P L xs) 107 20 [some (.inr (.inr (.inl (0, 0))))] [.inr (.inr (.inl (1, 1))), .inr (.inr (.inl (73, 271)))] (f, l) Q) : fl_Tq (pw_P L xs) 107 0 [some (.inr (.inr (.inl (0, 0))))] [] (f, l) Q := by
  refine fl_Tq.stp (pc' := 1) (lv' := [some (.inr (.inr (.inl (0, 0))))]) (st' := [.inr (.inr (.inl (0, 0)))]) (m' := (f, l)) rfl rfl (fl_bo rfl) rfl ?_
  refine fl_Tq.stp (pc' := 4) (lv' := [some (.inr (.inr (.inl (0, 0))))]) (st' := [.inr (.inr (.inl (1, 1)))]) (m' := (f, l)) rfl rfl (fl_bo rfl) rfl ?_
  refine fl_Tq.gfV (k := 7) (v := f 1 7) rfl (fl_bo rfl) rfl rfl ?_
  by_cases h1 : (f 1 7).toInt = 0
  · refine fl_Tq.zf rfl (fl_bo rfl) (c1_ne_f h1) rfl ?_
    refine fl_Tq.cI (c := (0 : Int32)) rfl (by decide +kernel) (fl_bo rfl) ?_
    exact fl_Tq.ret rfl rfl rfl (k h1)
  · refine fl_Tq.zt rfl (fl_bo rfl) (c1_ne_t h1) rfl ?_
    refine fl_Tq.stp (pc' := 13) (lv' := [some (.inr (.inr (.inl (0, 0))))]) (st' := [.inr (.inr (.inl (0, 0)))]) (m' := (f, l)) rfl rfl (fl_bo rfl) rfl ?_
    refine fl_Tq.stp (pc' := 16) (lv' := [some (.inr (.inr (.inl (0, 0))))]) (st' := [.inr (.inr (.inl (73, 271)))]) (m' := (f, l)) rfl rfl (fl_bo rfl) rfl ?_
    refine fl_Tq.stp (pc' := 17) (lv' := [some (.inr (.inr (.inl (0, 0))))]) (st' := [.inr (.inr (.inl (0, 0))), .inr (.inr (.inl (73, 271)))]) (m' := (f, l)) rfl rfl (fl_bo rfl) rfl ?_
    refine fl_Tq.stp (pc' := 20) (lv' := [some (.inr (.inr (.inl (0, 0))))]) (st' := [.inr (.inr (.inl (1, 1))), .inr (.inr (.inl (73, 271)))]) (m' := (f, l)) rfl rfl (fl_bo rfl) rfl ?_
    exact k1 h1
theorem x_open_B {L : Nat} {xs : Nat → Int32} {f : t2_F} {l : t2_L} {Q : Option fl_V → fl_M → Prop}   (k : Q (some (.inl (1 : Int32))) (fl_row f 1 (upd (upd (f 1) 7 (0 : Int32)) 9 (0 : Int32)), l)) : fl_Tq (pw_P L xs) 107 23 [some (.inr (.inr (.inl (0, 0))))] [] (f, l) Q := by
  refine fl_Tq.stp (pc' := 24) (lv' := [some (.inr (.inr (.inl (0, 0))))]) (st' := [.inr (.inr (.inl (0, 0)))]) (m' := (f, l)) rfl rfl (fl_bo rfl) rfl ?_
  refine fl_Tq.stp (pc' := 27) (lv' := [some (.inr (.inr (.inl (0, 0))))]) (st' := [.inr (.inr (.inl (1, 1)))]) (m' := (f, l)) rfl rfl (fl_bo rfl) rfl ?_
  refine fl_Tq.cI (c := (0 : Int32)) rfl (by decide +kernel) (fl_bo rfl) ?_
  refine fl_Tq.pfV (k := 7) (m' := (fl_row f 1 (upd (f 1) 7 (0 : Int32)), l)) rfl (fl_bo rfl) rfl (t2_upn rfl) ?_
  refine fl_Tq.stp (pc' := 32) (lv' := [some (.inr (.inr (.inl (0, 0))))]) (st' := [.inr (.inr (.inl (0, 0)))]) (m' := (fl_row f 1 (upd (f 1) 7 (0 : Int32)), l)) rfl rfl (fl_bo rfl) rfl ?_
  refine fl_Tq.stp (pc' := 35) (lv' := [some (.inr (.inr (.inl (0, 0))))]) (st' := [.inr (.inr (.inl (1, 1)))]) (m' := (fl_row f 1 (upd (f 1) 7 (0 : Int32)), l)) rfl rfl (fl_bo rfl) rfl ?_
  refine fl_Tq.cI (c := (0 : Int32)) rfl (by decide +kernel) (fl_bo rfl) ?_
  refine fl_Tq.pfV (k := 9) (m' := (fl_row f 1 (upd (upd (f 1) 7 (0 : Int32)) 9 (0 : Int32)), l)) rfl (fl_bo rfl) rfl (t2_upr) ?_
  refine fl_Tq.cI (c := (1 : Int32)) rfl (by decide +kernel) (fl_bo rfl) ?_
  exact fl_Tq.ret rfl rfl rfl k
theorem x_reset_A {L : Nat} {xs : Nat → Int32} {f : t2_F} {l : t2_L} {Q : Option fl_V → fl_M → Prop} {a : Int32}  (k : ((c0_couldReset_v f a).toInt = 0) → Q (some (.inl (0 : Int32))) (f, l)) (k1 : (¬ ((c0_couldReset_v f a).toInt = 0)) → fl_Tq (pw_P L xs) 108 21 [some (.inr (.inr (.inl (0, 0)))), some (.inl a)] [.inr (.inr (.inl (1, 1))), .inr (.inr (.inl (73, 271)))] (f, l) Q) : fl_Tq (pw_P L xs) 108 0 [some (.inr (.inr (.inl (0, 0)))), some (.inl a)] [] (f, l) Q := by
  refine fl_Tq.stp (pc' := 1) (lv' := [some (.inr (.inr (.inl (0, 0)))), some (.inl a)]) (st' := [.inr (.inr (.inl (0, 0)))]) (m' := (f, l)) rfl rfl (fl_bo rfl) rfl ?_
  refine fl_Tq.stp (pc' := 4) (lv' := [some (.inr (.inr (.inl (0, 0)))), some (.inl a)]) (st' := [.inr (.inr (.inl (1, 1)))]) (m' := (f, l)) rfl rfl (fl_bo rfl) rfl ?_
  refine fl_Tq.stp (pc' := 5) (lv' := [some (.inr (.inr (.inl (0, 0)))), some (.inl a)]) (st' := [.inl a, .inr (.inr (.inl (1, 1)))]) (m' := (f, l)) rfl rfl (fl_bo rfl) rfl ?_
  refine fl_Tq.cal rfl rfl (fl_bo rfl) rfl ?_
  refine c0_couldReset_q  ?_
  show fl_Tq _ 108 8 [some (.inr (.inr (.inl (0, 0)))), some (.inl a)] [.inl (c0_couldReset_v f a)] (f, l) _
  by_cases h1 : (c0_couldReset_v f a).toInt = 0
  · refine fl_Tq.zf rfl (fl_bo rfl) (c1_ne_f h1) rfl ?_
    refine fl_Tq.cI (c := (0 : Int32)) rfl (by decide +kernel) (fl_bo rfl) ?_
    exact fl_Tq.ret rfl rfl rfl (k h1)
  · refine fl_Tq.zt rfl (fl_bo rfl) (c1_ne_t h1) rfl ?_
    refine fl_Tq.stp (pc' := 14) (lv' := [some (.inr (.inr (.inl (0, 0)))), some (.inl a)]) (st' := [.inr (.inr (.inl (0, 0)))]) (m' := (f, l)) rfl rfl (fl_bo rfl) rfl ?_
    refine fl_Tq.stp (pc' := 17) (lv' := [some (.inr (.inr (.inl (0, 0)))), some (.inl a)]) (st' := [.inr (.inr (.inl (73, 271)))]) (m' := (f, l)) rfl rfl (fl_bo rfl) rfl ?_
    refine fl_Tq.stp (pc' := 18) (lv' := [some (.inr (.inr (.inl (0, 0)))), some (.inl a)]) (st' := [.inr (.inr (.inl (0, 0))), .inr (.inr (.inl (73, 271)))]) (m' := (f, l)) rfl rfl (fl_bo rfl) rfl ?_
    refine fl_Tq.stp (pc' := 21) (lv' := [some (.inr (.inr (.inl (0, 0)))), some (.inl a)]) (st' := [.inr (.inr (.inl (1, 1))), .inr (.inr (.inl (73, 271)))]) (m' := (f, l)) rfl rfl (fl_bo rfl) rfl ?_
    exact k1 h1
theorem x_reset_B {L : Nat} {xs : Nat → Int32} {f : t2_F} {l : t2_L} {Q : Option fl_V → fl_M → Prop} {a : Int32}  (k : Q (some (.inl (1 : Int32))) (fl_row f 10 (upd (f 10) 3 ((f 10 3) &&& (((1 : Int32) <<< (a &&& 31)) ^^^ (-1 : Int32)))), l)) : fl_Tq (pw_P L xs) 108 24 [some (.inr (.inr (.inl (0, 0)))), some (.inl a)] [] (f, l) Q := by
  refine fl_Tq.stp (pc' := 25) (lv' := [some (.inr (.inr (.inl (0, 0)))), some (.inl a)]) (st' := [.inr (.inr (.inl (0, 0)))]) (m' := (f, l)) rfl rfl (fl_bo rfl) rfl ?_
  refine fl_Tq.stp (pc' := 28) (lv' := [some (.inr (.inr (.inl (0, 0)))), some (.inl a)]) (st' := [.inr (.inr (.inl (1, 1)))]) (m' := (f, l)) rfl rfl (fl_bo rfl) rfl ?_
  refine fl_Tq.stp (pc' := 31) (lv' := [some (.inr (.inr (.inl (0, 0)))), some (.inl a)]) (st' := [.inr (.inr (.inl (10, 10)))]) (m' := (f, l)) rfl rfl (fl_bo rfl) rfl ?_
  refine fl_Tq.stp (pc' := 32) (lv' := [some (.inr (.inr (.inl (0, 0)))), some (.inl a)]) (st' := [.inr (.inr (.inl (10, 10))), .inr (.inr (.inl (10, 10)))]) (m' := (f, l)) rfl rfl (fl_bo rfl) rfl ?_
  refine fl_Tq.gfV (k := 3) (v := f 10 3) rfl (fl_bo rfl) rfl rfl ?_
  refine fl_Tq.cI (c := (1 : Int32)) rfl (by decide +kernel) (fl_bo rfl) ?_
  refine fl_Tq.stp (pc' := 37) (lv' := [some (.inr (.inr (.inl (0, 0)))), some (.inl a)]) (st' := [.inl a, .inl (1 : Int32), .inl (f 10 3), .inr (.inr (.inl (10, 10)))]) (m' := (f, l)) rfl rfl (fl_bo rfl) rfl ?_
  refine fl_Tq.stp (pc' := 38) (lv' := [some (.inr (.inr (.inl (0, 0)))), some (.inl a)]) (st' := [.inl ((1 : Int32) <<< (a &&& 31)), .inl (f 10 3), .inr (.inr (.inl (10, 10)))]) (m' := (f, l)) rfl rfl (fl_bo rfl) rfl ?_
  refine fl_Tq.cI (c := (-1 : Int32)) rfl (by decide +kernel) (fl_bo rfl) ?_
  refine fl_Tq.stp (pc' := 40) (lv' := [some (.inr (.inr (.inl (0, 0)))), some (.inl a)]) (st' := [.inl (((1 : Int32) <<< (a &&& 31)) ^^^ (-1 : Int32)), .inl (f 10 3), .inr (.inr (.inl (10, 10)))]) (m' := (f, l)) rfl rfl (fl_bo rfl) rfl ?_
  refine fl_Tq.stp (pc' := 41) (lv' := [some (.inr (.inr (.inl (0, 0)))), some (.inl a)]) (st' := [.inl ((f 10 3) &&& (((1 : Int32) <<< (a &&& 31)) ^^^ (-1 : Int32))), .inr (.inr (.inl (10, 10)))]) (m' := (f, l)) rfl rfl (fl_bo rfl) rfl ?_
  refine fl_Tq.pfV (k := 3) (m' := (fl_row f 10 (upd (f 10) 3 ((f 10 3) &&& (((1 : Int32) <<< (a &&& 31)) ^^^ (-1 : Int32)))), l)) rfl (fl_bo rfl) rfl (t2_upn rfl) ?_
  refine fl_Tq.cI (c := (1 : Int32)) rfl (by decide +kernel) (fl_bo rfl) ?_
  exact fl_Tq.ret rfl rfl rfl k
theorem x_stuck_A {L : Nat} {xs : Nat → Int32} {f : t2_F} {l : t2_L} {Q : Option fl_V → fl_M → Prop} {a b : Int32}  (k : ((t2_within_v a (0 : Int32) (2 : Int32)).toInt = 0) → Q (some (.inl (0 : Int32))) (f, l)) (k1 : (¬ ((t2_within_v a (0 : Int32) (2 : Int32)).toInt = 0)) → ((t2_within_v b (0 : Int32) (2 : Int32)).toInt = 0) → Q (some (.inl (0 : Int32))) (f, l)) (k2 : (¬ ((t2_within_v a (0 : Int32) (2 : Int32)).toInt = 0)) → (¬ ((t2_within_v b (0 : Int32) (2 : Int32)).toInt = 0)) → fl_Tq (pw_P L xs) 109 28 [some (.inr (.inr (.inl (0, 0)))), some (.inl a), some (.inl b)] [.inr (.inr (.inl (1, 1))), .inr (.inr (.inl (73, 271)))] (f, l) Q) : fl_Tq (pw_P L xs) 109 0 [some (.inr (.inr (.inl (0, 0)))), some (.inl a), some (.inl b)] [] (f, l) Q := by
  refine fl_Tq.stp (pc' := 1) (lv' := [some (.inr (.inr (.inl (0, 0)))), some (.inl a), some (.inl b)]) (st' := [.inl a]) (m' := (f, l)) rfl rfl (fl_bo rfl) rfl ?_
  refine fl_Tq.cI (c := (0 : Int32)) rfl (by decide +kernel) (fl_bo rfl) ?_
  refine fl_Tq.cI (c := (2 : Int32)) rfl (by decide +kernel) (fl_bo rfl) ?_
  refine fl_Tq.cal rfl rfl (fl_bo rfl) rfl ?_
  refine t2_within_q  ?_
  show fl_Tq _ 109 6 [some (.inr (.inr (.inl (0, 0)))), some (.inl a), some (.inl b)] [.inl (t2_within_v a (0 : Int32) (2 : Int32))] (f, l) _
  by_cases h1 : (t2_within_v a (0 : Int32) (2 : Int32)).toInt = 0
  · refine fl_Tq.zt rfl (fl_bo rfl) (c1_eq_t h1) rfl ?_
    refine fl_Tq.cI (c := (0 : Int32)) rfl (by decide +kernel) (fl_bo rfl) ?_
    exact fl_Tq.ret rfl rfl rfl (k h1)
  · refine fl_Tq.zf rfl (fl_bo rfl) (c1_eq_f h1) rfl ?_
    refine fl_Tq.stp (pc' := 10) (lv' := [some (.inr (.inr (.inl (0, 0)))), some (.inl a), some (.inl b)]) (st' := [.inl b]) (m' := (f, l)) rfl rfl (fl_bo rfl) rfl ?_
    refine fl_Tq.cI (c := (0 : Int32)) rfl (by decide +kernel) (fl_bo rfl) ?_
    refine fl_Tq.cI (c := (2 : Int32)) rfl (by decide +kernel) (fl_bo rfl) ?_
    refine fl_Tq.cal rfl rfl (fl_bo rfl) rfl ?_
    refine t2_within_q  ?_
    show fl_Tq _ 109 15 [some (.inr (.inr (.inl (0, 0)))), some (.inl a), some (.inl b)] [.inl (t2_within_v b (0 : Int32) (2 : Int32))] (f, l) _
    by_cases h2 : (t2_within_v b (0 : Int32) (2 : Int32)).toInt = 0
    · refine fl_Tq.zf rfl (fl_bo rfl) (c1_ne_f h2) rfl ?_
      refine fl_Tq.cI (c := (0 : Int32)) rfl (by decide +kernel) (fl_bo rfl) ?_
      exact fl_Tq.ret rfl rfl rfl (k1 h1 h2)
    · refine fl_Tq.zt rfl (fl_bo rfl) (c1_ne_t h2) rfl ?_
      refine fl_Tq.stp (pc' := 21) (lv' := [some (.inr (.inr (.inl (0, 0)))), some (.inl a), some (.inl b)]) (st' := [.inr (.inr (.inl (0, 0)))]) (m' := (f, l)) rfl rfl (fl_bo rfl) rfl ?_
      refine fl_Tq.stp (pc' := 24) (lv' := [some (.inr (.inr (.inl (0, 0)))), some (.inl a), some (.inl b)]) (st' := [.inr (.inr (.inl (73, 271)))]) (m' := (f, l)) rfl rfl (fl_bo rfl) rfl ?_
      refine fl_Tq.stp (pc' := 25) (lv' := [some (.inr (.inr (.inl (0, 0)))), some (.inl a), some (.inl b)]) (st' := [.inr (.inr (.inl (0, 0))), .inr (.inr (.inl (73, 271)))]) (m' := (f, l)) rfl rfl (fl_bo rfl) rfl ?_
      refine fl_Tq.stp (pc' := 28) (lv' := [some (.inr (.inr (.inl (0, 0)))), some (.inl a), some (.inl b)]) (st' := [.inr (.inr (.inl (1, 1))), .inr (.inr (.inl (73, 271)))]) (m' := (f, l)) rfl rfl (fl_bo rfl) rfl ?_
      exact k2 h1 h2
theorem x_stuck_B {L : Nat} {xs : Nat → Int32} {f : t2_F} {l : t2_L} {Q : Option fl_V → fl_M → Prop} {a b : Int32} {A : Nat} (hA : a.toInt = (A : Int)) (hA1 : A < 3) (k : Q (some (.inl (1 : Int32))) (fl_row f 5 (upd (f 5) A b), l)) : fl_Tq (pw_P L xs) 109 31 [some (.inr (.inr (.inl (0, 0)))), some (.inl a), some (.inl b)] [] (f, l) Q := by
  refine fl_Tq.stp (pc' := 32) (lv' := [some (.inr (.inr (.inl (0, 0)))), some (.inl a), some (.inl b)]) (st' := [.inr (.inr (.inl (0, 0)))]) (m' := (f, l)) rfl rfl (fl_bo rfl) rfl ?_
  refine fl_Tq.stp (pc' := 35) (lv' := [some (.inr (.inr (.inl (0, 0)))), some (.inl a), some (.inl b)]) (st' := [.inr (.inr (.inl (1, 1)))]) (m' := (f, l)) rfl rfl (fl_bo rfl) rfl ?_
  refine fl_Tq.stp (pc' := 38) (lv' := [some (.inr (.inr (.inl (0, 0)))), some (.inl a), some (.inl b)]) (st' := [.inr (.inr (.inl (3, 3)))]) (m' := (f, l)) rfl rfl (fl_bo rfl) rfl ?_
  refine fl_Tq.stp (pc' := 41) (lv' := [some (.inr (.inr (.inl (0, 0)))), some (.inl a), some (.inl b)]) (st' := [.inr (.inr (.inl (5, 5)))]) (m' := (f, l)) rfl rfl (fl_bo rfl) rfl ?_
  refine fl_Tq.stp (pc' := 42) (lv' := [some (.inr (.inr (.inl (0, 0)))), some (.inl a), some (.inl b)]) (st' := [.inl a, .inr (.inr (.inl (5, 5)))]) (m' := (f, l)) rfl rfl (fl_bo rfl) rfl ?_
  refine fl_Tq.stp (pc' := 43) (lv' := [some (.inr (.inr (.inl (0, 0)))), some (.inl a), some (.inl b)]) (st' := [.inl b, .inl a, .inr (.inr (.inl (5, 5)))]) (m' := (f, l)) rfl rfl (fl_bo rfl) rfl ?_
  refine fl_Tq.svV (p := 5) (τ := 5) (n := 3) (z := (0, 0, 0)) (k := A) (m' := (fl_row f 5 (upd (f 5) A b), l)) rfl (fl_bo rfl) rfl hA hA1 (t2_upn rfl) ?_
  refine fl_Tq.cI (c := (1 : Int32)) rfl (by decide +kernel) (fl_bo rfl) ?_
  exact fl_Tq.ret rfl rfl rfl k
theorem x_price_A {L : Nat} {xs : Nat → Int32} {f : t2_F} {l : t2_L} {Q : Option fl_V → fl_M → Prop} {a b : Int32}  (k : ((t2_within_v a (0 : Int32) (23 : Int32)).toInt = 0) → Q (some (.inl (0 : Int32))) (f, l)) (k1 : (¬ ((t2_within_v a (0 : Int32) (23 : Int32)).toInt = 0)) → ((t2_within_v b (0 : Int32) (999 : Int32)).toInt = 0) → Q (some (.inl (0 : Int32))) (f, l)) (k2 : (¬ ((t2_within_v a (0 : Int32) (23 : Int32)).toInt = 0)) → (¬ ((t2_within_v b (0 : Int32) (999 : Int32)).toInt = 0)) → fl_Tq (pw_P L xs) 112 31 [some (.inr (.inr (.inl (0, 0)))), some (.inl a), some (.inl b)] [.inr (.inr (.inl (1, 1))), .inr (.inr (.inl (73, 271)))] (f, l) Q) : fl_Tq (pw_P L xs) 112 0 [some (.inr (.inr (.inl (0, 0)))), some (.inl a), some (.inl b)] [] (f, l) Q := by
  refine fl_Tq.stp (pc' := 1) (lv' := [some (.inr (.inr (.inl (0, 0)))), some (.inl a), some (.inl b)]) (st' := [.inl a]) (m' := (f, l)) rfl rfl (fl_bo rfl) rfl ?_
  refine fl_Tq.cI (c := (0 : Int32)) rfl (by decide +kernel) (fl_bo rfl) ?_
  refine fl_Tq.cB (c := (23 : Int32)) rfl (by decide +kernel) (fl_bo rfl) ?_
  refine fl_Tq.cal rfl rfl (fl_bo rfl) rfl ?_
  refine t2_within_q  ?_
  show fl_Tq _ 112 7 [some (.inr (.inr (.inl (0, 0)))), some (.inl a), some (.inl b)] [.inl (t2_within_v a (0 : Int32) (23 : Int32))] (f, l) _
  by_cases h1 : (t2_within_v a (0 : Int32) (23 : Int32)).toInt = 0
  · refine fl_Tq.zt rfl (fl_bo rfl) (c1_eq_t h1) rfl ?_
    refine fl_Tq.cI (c := (0 : Int32)) rfl (by decide +kernel) (fl_bo rfl) ?_
    exact fl_Tq.ret rfl rfl rfl (k h1)
  · refine fl_Tq.zf rfl (fl_bo rfl) (c1_eq_f h1) rfl ?_
    refine fl_Tq.stp (pc' := 11) (lv' := [some (.inr (.inr (.inl (0, 0)))), some (.inl a), some (.inl b)]) (st' := [.inl b]) (m' := (f, l)) rfl rfl (fl_bo rfl) rfl ?_
    refine fl_Tq.cI (c := (0 : Int32)) rfl (by decide +kernel) (fl_bo rfl) ?_
    refine fl_Tq.cS (c := (999 : Int32)) rfl (by decide +kernel) (fl_bo rfl) ?_
    refine fl_Tq.cal rfl rfl (fl_bo rfl) rfl ?_
    refine t2_within_q  ?_
    show fl_Tq _ 112 18 [some (.inr (.inr (.inl (0, 0)))), some (.inl a), some (.inl b)] [.inl (t2_within_v b (0 : Int32) (999 : Int32))] (f, l) _
    by_cases h2 : (t2_within_v b (0 : Int32) (999 : Int32)).toInt = 0
    · refine fl_Tq.zf rfl (fl_bo rfl) (c1_ne_f h2) rfl ?_
      refine fl_Tq.cI (c := (0 : Int32)) rfl (by decide +kernel) (fl_bo rfl) ?_
      exact fl_Tq.ret rfl rfl rfl (k1 h1 h2)
    · refine fl_Tq.zt rfl (fl_bo rfl) (c1_ne_t h2) rfl ?_
      refine fl_Tq.stp (pc' := 24) (lv' := [some (.inr (.inr (.inl (0, 0)))), some (.inl a), some (.inl b)]) (st' := [.inr (.inr (.inl (0, 0)))]) (m' := (f, l)) rfl rfl (fl_bo rfl) rfl ?_
      refine fl_Tq.stp (pc' := 27) (lv' := [some (.inr (.inr (.inl (0, 0)))), some (.inl a), some (.inl b)]) (st' := [.inr (.inr (.inl (73, 271)))]) (m' := (f, l)) rfl rfl (fl_bo rfl) rfl ?_
      refine fl_Tq.stp (pc' := 28) (lv' := [some (.inr (.inr (.inl (0, 0)))), some (.inl a), some (.inl b)]) (st' := [.inr (.inr (.inl (0, 0))), .inr (.inr (.inl (73, 271)))]) (m' := (f, l)) rfl rfl (fl_bo rfl) rfl ?_
      refine fl_Tq.stp (pc' := 31) (lv' := [some (.inr (.inr (.inl (0, 0)))), some (.inl a), some (.inl b)]) (st' := [.inr (.inr (.inl (1, 1))), .inr (.inr (.inl (73, 271)))]) (m' := (f, l)) rfl rfl (fl_bo rfl) rfl ?_
      exact k2 h1 h2
theorem x_price_B {L : Nat} {xs : Nat → Int32} {f : t2_F} {l : t2_L} {Q : Option fl_V → fl_M → Prop} {a b : Int32} {A : Nat} (hA : a.toInt = (A : Int)) (hA1 : A < 24) (k : Q (some (.inl (1 : Int32))) (fl_row f 6 (upd (f 6) A b), l)) : fl_Tq (pw_P L xs) 112 34 [some (.inr (.inr (.inl (0, 0)))), some (.inl a), some (.inl b)] [] (f, l) Q := by
  refine fl_Tq.stp (pc' := 35) (lv' := [some (.inr (.inr (.inl (0, 0)))), some (.inl a), some (.inl b)]) (st' := [.inr (.inr (.inl (0, 0)))]) (m' := (f, l)) rfl rfl (fl_bo rfl) rfl ?_
  refine fl_Tq.stp (pc' := 38) (lv' := [some (.inr (.inr (.inl (0, 0)))), some (.inl a), some (.inl b)]) (st' := [.inr (.inr (.inl (1, 1)))]) (m' := (f, l)) rfl rfl (fl_bo rfl) rfl ?_
  refine fl_Tq.stp (pc' := 41) (lv' := [some (.inr (.inr (.inl (0, 0)))), some (.inl a), some (.inl b)]) (st' := [.inr (.inr (.inl (3, 3)))]) (m' := (f, l)) rfl rfl (fl_bo rfl) rfl ?_
  refine fl_Tq.stp (pc' := 44) (lv' := [some (.inr (.inr (.inl (0, 0)))), some (.inl a), some (.inl b)]) (st' := [.inr (.inr (.inl (6, 6)))]) (m' := (f, l)) rfl rfl (fl_bo rfl) rfl ?_
  refine fl_Tq.stp (pc' := 45) (lv' := [some (.inr (.inr (.inl (0, 0)))), some (.inl a), some (.inl b)]) (st' := [.inl a, .inr (.inr (.inl (6, 6)))]) (m' := (f, l)) rfl rfl (fl_bo rfl) rfl ?_
  refine fl_Tq.stp (pc' := 46) (lv' := [some (.inr (.inr (.inl (0, 0)))), some (.inl a), some (.inl b)]) (st' := [.inl b, .inl a, .inr (.inr (.inl (6, 6)))]) (m' := (f, l)) rfl rfl (fl_bo rfl) rfl ?_
  refine fl_Tq.svV (p := 6) (τ := 6) (n := 24) (z := (0, 0, 0)) (k := A) (m' := (fl_row f 6 (upd (f 6) A b), l)) rfl (fl_bo rfl) rfl hA hA1 (t2_upn rfl) ?_
  refine fl_Tq.cI (c := (1 : Int32)) rfl (by decide +kernel) (fl_bo rfl) ?_
  exact fl_Tq.ret rfl rfl rfl k
theorem x_set_A {L : Nat} {xs : Nat → Int32} {f : t2_F} {l : t2_L} {Q : Option fl_V → fl_M → Prop} {a b : Int32}  (k : fl_Tq (pw_P L xs) 104 2 [some (.inr (.inr (.inl (0, 0)))), some (.inl a), some (.inl b)] [.inl b, .inl a] (f, l) Q) : fl_Tq (pw_P L xs) 104 0 [some (.inr (.inr (.inl (0, 0)))), some (.inl a), some (.inl b)] [] (f, l) Q := by
  refine fl_Tq.stp (pc' := 1) (lv' := [some (.inr (.inr (.inl (0, 0)))), some (.inl a), some (.inl b)]) (st' := [.inl a]) (m' := (f, l)) rfl rfl (fl_bo rfl) rfl ?_
  refine fl_Tq.stp (pc' := 2) (lv' := [some (.inr (.inr (.inl (0, 0)))), some (.inl a), some (.inl b)]) (st' := [.inl b, .inl a]) (m' := (f, l)) rfl rfl (fl_bo rfl) rfl ?_
  exact k
theorem x_set_A2 {L : Nat} {xs : Nat → Int32} {f : t2_F} {l : t2_L} {Q : Option fl_V → fl_M → Prop} {a b z : Int32}  (k : (z.toInt = 0) → Q (some (.inl (0 : Int32))) (f, l)) (k1 : (¬ (z.toInt = 0)) → fl_Tq (pw_P L xs) 104 18 [some (.inr (.inr (.inl (0, 0)))), some (.inl a), some (.inl b)] [.inr (.inr (.inl (1, 1))), .inr (.inr (.inl (73, 271)))] (f, l) Q) : fl_Tq (pw_P L xs) 104 5 [some (.inr (.inr (.inl (0, 0)))), some (.inl a), some (.inl b)] [.inl z] (f, l) Q := by
  by_cases h1 : z.toInt = 0
  · refine fl_Tq.zf rfl (fl_bo rfl) (c1_ne_f h1) rfl ?_
    refine fl_Tq.cI (c := (0 : Int32)) rfl (by decide +kernel) (fl_bo rfl) ?_
    exact fl_Tq.ret rfl rfl rfl (k h1)
  · refine fl_Tq.zt rfl (fl_bo rfl) (c1_ne_t h1) rfl ?_
    refine fl_Tq.stp (pc' := 11) (lv' := [some (.inr (.inr (.inl (0, 0)))), some (.inl a), some (.inl b)]) (st' := [.inr (.inr (.inl (0, 0)))]) (m' := (f, l)) rfl rfl (fl_bo rfl) rfl ?_
    refine fl_Tq.stp (pc' := 14) (lv' := [some (.inr (.inr (.inl (0, 0)))), some (.inl a), some (.inl b)]) (st' := [.inr (.inr (.inl (73, 271)))]) (m' := (f, l)) rfl rfl (fl_bo rfl) rfl ?_
    refine fl_Tq.stp (pc' := 15) (lv' := [some (.inr (.inr (.inl (0, 0)))), some (.inl a), some (.inl b)]) (st' := [.inr (.inr (.inl (0, 0))), .inr (.inr (.inl (73, 271)))]) (m' := (f, l)) rfl rfl (fl_bo rfl) rfl ?_
    refine fl_Tq.stp (pc' := 18) (lv' := [some (.inr (.inr (.inl (0, 0)))), some (.inl a), some (.inl b)]) (st' := [.inr (.inr (.inl (1, 1))), .inr (.inr (.inl (73, 271)))]) (m' := (f, l)) rfl rfl (fl_bo rfl) rfl ?_
    exact k1 h1
theorem x_set_B {L : Nat} {xs : Nat → Int32} {f : t2_F} {l : t2_L} {Q : Option fl_V → fl_M → Prop} {a b : Int32} {A : Nat} (hA : a.toInt = (A : Int)) (hA1 : A < 30) (k : Q (some (.inl (1 : Int32))) (fl_row f 4 (upd (f 4) A b), l)) : fl_Tq (pw_P L xs) 104 21 [some (.inr (.inr (.inl (0, 0)))), some (.inl a), some (.inl b)] [] (f, l) Q := by
  refine fl_Tq.stp (pc' := 22) (lv' := [some (.inr (.inr (.inl (0, 0)))), some (.inl a), some (.inl b)]) (st' := [.inr (.inr (.inl (0, 0)))]) (m' := (f, l)) rfl rfl (fl_bo rfl) rfl ?_
  refine fl_Tq.stp (pc' := 25) (lv' := [some (.inr (.inr (.inl (0, 0)))), some (.inl a), some (.inl b)]) (st' := [.inr (.inr (.inl (1, 1)))]) (m' := (f, l)) rfl rfl (fl_bo rfl) rfl ?_
  refine fl_Tq.stp (pc' := 28) (lv' := [some (.inr (.inr (.inl (0, 0)))), some (.inl a), some (.inl b)]) (st' := [.inr (.inr (.inl (3, 3)))]) (m' := (f, l)) rfl rfl (fl_bo rfl) rfl ?_
  refine fl_Tq.stp (pc' := 31) (lv' := [some (.inr (.inr (.inl (0, 0)))), some (.inl a), some (.inl b)]) (st' := [.inr (.inr (.inl (4, 4)))]) (m' := (f, l)) rfl rfl (fl_bo rfl) rfl ?_
  refine fl_Tq.stp (pc' := 32) (lv' := [some (.inr (.inr (.inl (0, 0)))), some (.inl a), some (.inl b)]) (st' := [.inl a, .inr (.inr (.inl (4, 4)))]) (m' := (f, l)) rfl rfl (fl_bo rfl) rfl ?_
  refine fl_Tq.stp (pc' := 33) (lv' := [some (.inr (.inr (.inl (0, 0)))), some (.inl a), some (.inl b)]) (st' := [.inl b, .inl a, .inr (.inr (.inl (4, 4)))]) (m' := (f, l)) rfl rfl (fl_bo rfl) rfl ?_
  refine fl_Tq.svV (p := 4) (τ := 4) (n := 30) (z := (0, 0, 0)) (k := A) (m' := (fl_row f 4 (upd (f 4) A b), l)) rfl (fl_bo rfl) rfl hA hA1 (t2_upn rfl) ?_
  refine fl_Tq.cI (c := (1 : Int32)) rfl (by decide +kernel) (fl_bo rfl) ?_
  exact fl_Tq.ret rfl rfl rfl k
noncomputable def x_zone_A_j10_0 (a b : Int32) : Int32 := if (t2_within_v a (-400 : Int32) (1200 : Int32)).toInt = 0 then (0 : Int32) else (if (t2_within_v b (0 : Int32) (99999 : Int32)).toInt = 0 then (0 : Int32) else (1 : Int32))
theorem x_zone_A {L : Nat} {xs : Nat → Int32} {f : t2_F} {l : t2_L} {Q : Option fl_V → fl_M → Prop} {a b : Int32} (hz : 0 ≤ (f 3 6).toInt ∧ (f 3 6).toInt ≤ 6) (k : ((x_zone_A_j10_0 a b).toInt = 0) → Q (some (.inl (-1 : Int32))) (f, l)) (k1 : (¬ ((x_zone_A_j10_0 a b).toInt = 0)) → ((c0_bearsZone_v f a).toInt = 0) → Q (some (.inl (-1 : Int32))) (f, l)) (k2 : (¬ ((x_zone_A_j10_0 a b).toInt = 0)) → (¬ ((c0_bearsZone_v f a).toInt = 0)) → fl_Tq (pw_P L xs) 110 57 [some (.inr (.inr (.inl (0, 0)))), some (.inl a), some (.inl b), some (.inl (x_zone_A_j10_0 a b))] [.inr (.inr (.inl (1, 1))), .inr (.inr (.inl (73, 271)))] (f, l) Q) : fl_Tq (pw_P L xs) 110 0 [some (.inr (.inr (.inl (0, 0)))), some (.inl a), some (.inl b), none] [] (f, l) Q := by
  refine fl_Tq.stp (pc' := 1) (lv' := [some (.inr (.inr (.inl (0, 0)))), some (.inl a), some (.inl b), none]) (st' := [.inl a]) (m' := (f, l)) rfl rfl (fl_bo rfl) rfl ?_
  refine fl_Tq.cS (c := (-400 : Int32)) rfl (by decide +kernel) (fl_bo rfl) ?_
  refine fl_Tq.cS (c := (1200 : Int32)) rfl (by decide +kernel) (fl_bo rfl) ?_
  refine fl_Tq.cal rfl rfl (fl_bo rfl) rfl ?_
  refine t2_within_q  ?_
  show fl_Tq _ 110 10 [some (.inr (.inr (.inl (0, 0)))), some (.inl a), some (.inl b), none] [.inl (t2_within_v a (-400 : Int32) (1200 : Int32))] (f, l) _
  have hj177 : fl_Tq (pw_P L xs) 110 28 [some (.inr (.inr (.inl (0, 0)))), some (.inl a), some (.inl b), none] [.inl (x_zone_A_j10_0 a b)] (f, l) Q → fl_Tq (pw_P L xs) 110 10 [some (.inr (.inr (.inl (0, 0)))), some (.inl a), some (.inl b), none] [.inl (t2_within_v a (-400 : Int32) (1200 : Int32))] (f, l) Q := by
    intro hJ
    by_cases h1 : (t2_within_v a (-400 : Int32) (1200 : Int32)).toInt = 0
    · refine fl_Tq.zt rfl (fl_bo rfl) (c1_eq_t h1) rfl ?_
      refine fl_Tq.cI (c := (0 : Int32)) rfl (by decide +kernel) (fl_bo rfl) ?_
      have e0 : (x_zone_A_j10_0 a b) = (0 : Int32) := by simp only [x_zone_A_j10_0, if_pos h1]
      rw [e0] at hJ
      exact hJ
    · refine fl_Tq.zf rfl (fl_bo rfl) (c1_eq_f h1) rfl ?_
      refine fl_Tq.stp (pc' := 14) (lv' := [some (.inr (.inr (.inl (0, 0)))), some (.inl a), some (.inl b), none]) (st' := [.inl b]) (m' := (f, l)) rfl rfl (fl_bo rfl) rfl ?_
      refine fl_Tq.cI (c := (0 : Int32)) rfl (by decide +kernel) (fl_bo rfl) ?_
      refine fl_Tq.stp (pc' := 17) (lv' := [some (.inr (.inr (.inl (0, 0)))), some (.inl a), some (.inl b), none]) (st' := [.inl (99999 : Int32), .inl (0 : Int32), .inl b]) (m' := (f, l)) rfl rfl (fl_bo rfl) rfl ?_
      refine fl_Tq.cal rfl rfl (fl_bo rfl) rfl ?_
      refine t2_within_q  ?_
      show fl_Tq _ 110 20 [some (.inr (.inr (.inl (0, 0)))), some (.inl a), some (.inl b), none] [.inl (t2_within_v b (0 : Int32) (99999 : Int32))] (f, l) _
      by_cases h2 : (t2_within_v b (0 : Int32) (99999 : Int32)).toInt = 0
      · refine fl_Tq.zt rfl (fl_bo rfl) (c1_eq_t h2) rfl ?_
        refine fl_Tq.cI (c := (0 : Int32)) rfl (by decide +kernel) (fl_bo rfl) ?_
        have e0 : (x_zone_A_j10_0 a b) = (0 : Int32) := by simp only [x_zone_A_j10_0, if_neg h1, if_pos h2]
        rw [e0] at hJ
        exact hJ
      · refine fl_Tq.zf rfl (fl_bo rfl) (c1_eq_f h2) rfl ?_
        refine fl_Tq.cI (c := (1 : Int32)) rfl (by decide +kernel) (fl_bo rfl) ?_
        refine fl_Tq.stp (pc' := 28) (lv' := [some (.inr (.inr (.inl (0, 0)))), some (.inl a), some (.inl b), none]) (st' := [.inl (1 : Int32)]) (m' := (f, l)) rfl rfl (fl_bo rfl) rfl ?_
        have e0 : (x_zone_A_j10_0 a b) = (1 : Int32) := by simp only [x_zone_A_j10_0, if_neg h1, if_neg h2]
        rw [e0] at hJ
        exact hJ
  refine hj177 ?_
  show fl_Tq _ 110 28 [some (.inr (.inr (.inl (0, 0)))), some (.inl a), some (.inl b), none] [.inl (x_zone_A_j10_0 a b)] (f, l) _
  refine fl_Tq.stp (pc' := 29) (lv' := [some (.inr (.inr (.inl (0, 0)))), some (.inl a), some (.inl b), some (.inl (x_zone_A_j10_0 a b))]) (st' := []) (m' := (f, l)) rfl rfl (fl_bo rfl) rfl ?_
  refine fl_Tq.stp (pc' := 30) (lv' := [some (.inr (.inr (.inl (0, 0)))), some (.inl a), some (.inl b), some (.inl (x_zone_A_j10_0 a b))]) (st' := [.inl (x_zone_A_j10_0 a b)]) (m' := (f, l)) rfl rfl (fl_bo rfl) rfl ?_
  by_cases h3 : (x_zone_A_j10_0 a b).toInt = 0
  · refine fl_Tq.zt rfl (fl_bo rfl) (c1_eq_t h3) rfl ?_
    refine fl_Tq.cI (c := (-1 : Int32)) rfl (by decide +kernel) (fl_bo rfl) ?_
    exact fl_Tq.ret rfl rfl rfl (k h3)
  · refine fl_Tq.zf rfl (fl_bo rfl) (c1_eq_f h3) rfl ?_
    refine fl_Tq.stp (pc' := 34) (lv' := [some (.inr (.inr (.inl (0, 0)))), some (.inl a), some (.inl b), some (.inl (x_zone_A_j10_0 a b))]) (st' := [.inr (.inr (.inl (0, 0)))]) (m' := (f, l)) rfl rfl (fl_bo rfl) rfl ?_
    refine fl_Tq.stp (pc' := 37) (lv' := [some (.inr (.inr (.inl (0, 0)))), some (.inl a), some (.inl b), some (.inl (x_zone_A_j10_0 a b))]) (st' := [.inr (.inr (.inl (1, 1)))]) (m' := (f, l)) rfl rfl (fl_bo rfl) rfl ?_
    refine fl_Tq.stp (pc' := 40) (lv' := [some (.inr (.inr (.inl (0, 0)))), some (.inl a), some (.inl b), some (.inl (x_zone_A_j10_0 a b))]) (st' := [.inr (.inr (.inl (3, 3)))]) (m' := (f, l)) rfl rfl (fl_bo rfl) rfl ?_
    refine fl_Tq.stp (pc' := 41) (lv' := [some (.inr (.inr (.inl (0, 0)))), some (.inl a), some (.inl b), some (.inl (x_zone_A_j10_0 a b))]) (st' := [.inl a, .inr (.inr (.inl (3, 3)))]) (m' := (f, l)) rfl rfl (fl_bo rfl) rfl ?_
    refine fl_Tq.cal rfl rfl (fl_bo rfl) rfl ?_
    refine c0_bearsZone_q hz ?_
    show fl_Tq _ 110 44 [some (.inr (.inr (.inl (0, 0)))), some (.inl a), some (.inl b), some (.inl (x_zone_A_j10_0 a b))] [.inl (c0_bearsZone_v f a)] (f, l) _
    by_cases h4 : (c0_bearsZone_v f a).toInt = 0
    · refine fl_Tq.zf rfl (fl_bo rfl) (c1_ne_f h4) rfl ?_
      refine fl_Tq.cI (c := (-1 : Int32)) rfl (by decide +kernel) (fl_bo rfl) ?_
      exact fl_Tq.ret rfl rfl rfl (k1 h3 h4)
    · refine fl_Tq.zt rfl (fl_bo rfl) (c1_ne_t h4) rfl ?_
      refine fl_Tq.stp (pc' := 50) (lv' := [some (.inr (.inr (.inl (0, 0)))), some (.inl a), some (.inl b), some (.inl (x_zone_A_j10_0 a b))]) (st' := [.inr (.inr (.inl (0, 0)))]) (m' := (f, l)) rfl rfl (fl_bo rfl) rfl ?_
      refine fl_Tq.stp (pc' := 53) (lv' := [some (.inr (.inr (.inl (0, 0)))), some (.inl a), some (.inl b), some (.inl (x_zone_A_j10_0 a b))]) (st' := [.inr (.inr (.inl (73, 271)))]) (m' := (f, l)) rfl rfl (fl_bo rfl) rfl ?_
      refine fl_Tq.stp (pc' := 54) (lv' := [some (.inr (.inr (.inl (0, 0)))), some (.inl a), some (.inl b), some (.inl (x_zone_A_j10_0 a b))]) (st' := [.inr (.inr (.inl (0, 0))), .inr (.inr (.inl (73, 271)))]) (m' := (f, l)) rfl rfl (fl_bo rfl) rfl ?_
      refine fl_Tq.stp (pc' := 57) (lv' := [some (.inr (.inr (.inl (0, 0)))), some (.inl a), some (.inl b), some (.inl (x_zone_A_j10_0 a b))]) (st' := [.inr (.inr (.inl (1, 1))), .inr (.inr (.inl (73, 271)))]) (m' := (f, l)) rfl rfl (fl_bo rfl) rfl ?_
      exact k2 h3 h4
theorem x_zone_B {L : Nat} {xs : Nat → Int32} {f : t2_F} {l : t2_L} {Q : Option fl_V → fl_M → Prop} {a b : Int32} (hz : 0 ≤ (f 3 6).toInt ∧ (f 3 6).toInt ≤ 5) (k : Q (some (.inl (c0_addZone_v f a b))) (c0_addZone_m f a b, l)) : fl_Tq (pw_P L xs) 110 60 [some (.inr (.inr (.inl (0, 0)))), some (.inl a), some (.inl b), none] [] (f, l) Q := by
  refine fl_Tq.stp (pc' := 61) (lv' := [some (.inr (.inr (.inl (0, 0)))), some (.inl a), some (.inl b), none]) (st' := [.inr (.inr (.inl (0, 0)))]) (m' := (f, l)) rfl rfl (fl_bo rfl) rfl ?_
  refine fl_Tq.stp (pc' := 64) (lv' := [some (.inr (.inr (.inl (0, 0)))), some (.inl a), some (.inl b), none]) (st' := [.inr (.inr (.inl (1, 1)))]) (m' := (f, l)) rfl rfl (fl_bo rfl) rfl ?_
  refine fl_Tq.stp (pc' := 67) (lv' := [some (.inr (.inr (.inl (0, 0)))), some (.inl a), some (.inl b), none]) (st' := [.inr (.inr (.inl (3, 3)))]) (m' := (f, l)) rfl rfl (fl_bo rfl) rfl ?_
  refine fl_Tq.stp (pc' := 68) (lv' := [some (.inr (.inr (.inl (0, 0)))), some (.inl a), some (.inl b), none]) (st' := [.inl a, .inr (.inr (.inl (3, 3)))]) (m' := (f, l)) rfl rfl (fl_bo rfl) rfl ?_
  refine fl_Tq.stp (pc' := 69) (lv' := [some (.inr (.inr (.inl (0, 0)))), some (.inl a), some (.inl b), none]) (st' := [.inl b, .inl a, .inr (.inr (.inl (3, 3)))]) (m' := (f, l)) rfl rfl (fl_bo rfl) rfl ?_
  refine fl_Tq.cal rfl rfl (fl_bo rfl) rfl ?_
  refine c0_addZone_q hz ?_
  show fl_Tq _ 110 72 [some (.inr (.inr (.inl (0, 0)))), some (.inl a), some (.inl b), none] [.inl (c0_addZone_v f a b)] (c0_addZone_m f a b, l) _
  exact fl_Tq.ret rfl rfl rfl k
theorem x_mark_A {L : Nat} {xs : Nat → Int32} {f : t2_F} {l : t2_L} {Q : Option fl_V → fl_M → Prop} {a : Int32}  (k : ((t2_within_v a (0 : Int32) (2 : Int32)).toInt = 0) → Q (some (.inl (0 : Int32))) (f, l)) (k1 : (¬ ((t2_within_v a (0 : Int32) (2 : Int32)).toInt = 0)) → fl_Tq (pw_P L xs) 113 19 [some (.inr (.inr (.inl (0, 0)))), some (.inl a)] [.inr (.inr (.inl (1, 1))), .inr (.inr (.inl (73, 271)))] (f, l) Q) : fl_Tq (pw_P L xs) 113 0 [some (.inr (.inr (.inl (0, 0)))), some (.inl a)] [] (f, l) Q := by
  refine fl_Tq.stp (pc' := 1) (lv' := [some (.inr (.inr (.inl (0, 0)))), some (.inl a)]) (st' := [.inl a]) (m' := (f, l)) rfl rfl (fl_bo rfl) rfl ?_
  refine fl_Tq.cI (c := (0 : Int32)) rfl (by decide +kernel) (fl_bo rfl) ?_
  refine fl_Tq.cI (c := (2 : Int32)) rfl (by decide +kernel) (fl_bo rfl) ?_
  refine fl_Tq.cal rfl rfl (fl_bo rfl) rfl ?_
  refine t2_within_q  ?_
  show fl_Tq _ 113 6 [some (.inr (.inr (.inl (0, 0)))), some (.inl a)] [.inl (t2_within_v a (0 : Int32) (2 : Int32))] (f, l) _
  by_cases h1 : (t2_within_v a (0 : Int32) (2 : Int32)).toInt = 0
  · refine fl_Tq.zf rfl (fl_bo rfl) (c1_ne_f h1) rfl ?_
    refine fl_Tq.cI (c := (0 : Int32)) rfl (by decide +kernel) (fl_bo rfl) ?_
    exact fl_Tq.ret rfl rfl rfl (k h1)
  · refine fl_Tq.zt rfl (fl_bo rfl) (c1_ne_t h1) rfl ?_
    refine fl_Tq.stp (pc' := 12) (lv' := [some (.inr (.inr (.inl (0, 0)))), some (.inl a)]) (st' := [.inr (.inr (.inl (0, 0)))]) (m' := (f, l)) rfl rfl (fl_bo rfl) rfl ?_
    refine fl_Tq.stp (pc' := 15) (lv' := [some (.inr (.inr (.inl (0, 0)))), some (.inl a)]) (st' := [.inr (.inr (.inl (73, 271)))]) (m' := (f, l)) rfl rfl (fl_bo rfl) rfl ?_
    refine fl_Tq.stp (pc' := 16) (lv' := [some (.inr (.inr (.inl (0, 0)))), some (.inl a)]) (st' := [.inr (.inr (.inl (0, 0))), .inr (.inr (.inl (73, 271)))]) (m' := (f, l)) rfl rfl (fl_bo rfl) rfl ?_
    refine fl_Tq.stp (pc' := 19) (lv' := [some (.inr (.inr (.inl (0, 0)))), some (.inl a)]) (st' := [.inr (.inr (.inl (1, 1))), .inr (.inr (.inl (73, 271)))]) (m' := (f, l)) rfl rfl (fl_bo rfl) rfl ?_
    exact k1 h1
theorem x_mark_B {L : Nat} {xs : Nat → Int32} {f : t2_F} {l : t2_L} {Q : Option fl_V → fl_M → Prop} {a : Int32}  (k : fl_Tq (pw_P L xs) 113 27 [some (.inr (.inr (.inl (0, 0)))), some (.inl a)] [.inl a, .inr (.inr (.inl (1, 1)))] (f, l) Q) : fl_Tq (pw_P L xs) 113 22 [some (.inr (.inr (.inl (0, 0)))), some (.inl a)] [] (f, l) Q := by
  refine fl_Tq.stp (pc' := 23) (lv' := [some (.inr (.inr (.inl (0, 0)))), some (.inl a)]) (st' := [.inr (.inr (.inl (0, 0)))]) (m' := (f, l)) rfl rfl (fl_bo rfl) rfl ?_
  refine fl_Tq.stp (pc' := 26) (lv' := [some (.inr (.inr (.inl (0, 0)))), some (.inl a)]) (st' := [.inr (.inr (.inl (1, 1)))]) (m' := (f, l)) rfl rfl (fl_bo rfl) rfl ?_
  refine fl_Tq.stp (pc' := 27) (lv' := [some (.inr (.inr (.inl (0, 0)))), some (.inl a)]) (st' := [.inl a, .inr (.inr (.inl (1, 1)))]) (m' := (f, l)) rfl rfl (fl_bo rfl) rfl ?_
  exact k
theorem x_piece_A {L : Nat} {xs : Nat → Int32} {f : t2_F} {l : t2_L} {Q : Option fl_V → fl_M → Prop} {a b : Int32}  (k : fl_Tq (pw_P L xs) 114 3 [some (.inr (.inr (.inl (0, 0)))), some (.inl a), some (.inl b)] [.inl a, .inl (20 : Int32)] (f, l) Q) : fl_Tq (pw_P L xs) 114 0 [some (.inr (.inr (.inl (0, 0)))), some (.inl a), some (.inl b)] [] (f, l) Q := by
  refine fl_Tq.cB (c := (20 : Int32)) rfl (by decide +kernel) (fl_bo rfl) ?_
  refine fl_Tq.stp (pc' := 3) (lv' := [some (.inr (.inr (.inl (0, 0)))), some (.inl a), some (.inl b)]) (st' := [.inl a, .inl (20 : Int32)]) (m' := (f, l)) rfl rfl (fl_bo rfl) rfl ?_
  exact k
theorem x_piece_A2 {L : Nat} {xs : Nat → Int32} {f : t2_F} {l : t2_L} {Q : Option fl_V → fl_M → Prop} {a b z : Int32}  (k : (z.toInt = 0) → Q (some (.inl (-1 : Int32))) (f, l)) (k1 : (¬ (z.toInt = 0)) → ((t2_within_v b (1 : Int32) (99 : Int32)).toInt = 0) → Q (some (.inl (-1 : Int32))) (f, l)) (k2 : (¬ (z.toInt = 0)) → (¬ ((t2_within_v b (1 : Int32) (99 : Int32)).toInt = 0)) → ((c0_bearsPiece_v f).toInt = 0) → Q (some (.inl (-1 : Int32))) (f, l)) (k3 : (¬ (z.toInt = 0)) → (¬ ((t2_within_v b (1 : Int32) (99 : Int32)).toInt = 0)) → (¬ ((c0_bearsPiece_v f).toInt = 0)) → fl_Tq (pw_P L xs) 114 42 [some (.inr (.inr (.inl (0, 0)))), some (.inl a), some (.inl b)] [.inr (.inr (.inl (1, 1))), .inr (.inr (.inl (73, 271)))] (f, l) Q) : fl_Tq (pw_P L xs) 114 6 [some (.inr (.inr (.inl (0, 0)))), some (.inl a), some (.inl b)] [.inl z] (f, l) Q := by
  by_cases h1 : z.toInt = 0
  · refine fl_Tq.zt rfl (fl_bo rfl) (c1_eq_t h1) rfl ?_
    refine fl_Tq.cI (c := (-1 : Int32)) rfl (by decide +kernel) (fl_bo rfl) ?_
    exact fl_Tq.ret rfl rfl rfl (k h1)
  · refine fl_Tq.zf rfl (fl_bo rfl) (c1_eq_f h1) rfl ?_
    refine fl_Tq.stp (pc' := 10) (lv' := [some (.inr (.inr (.inl (0, 0)))), some (.inl a), some (.inl b)]) (st' := [.inl b]) (m' := (f, l)) rfl rfl (fl_bo rfl) rfl ?_
    refine fl_Tq.cI (c := (1 : Int32)) rfl (by decide +kernel) (fl_bo rfl) ?_
    refine fl_Tq.cB (c := (99 : Int32)) rfl (by decide +kernel) (fl_bo rfl) ?_
    refine fl_Tq.cal rfl rfl (fl_bo rfl) rfl ?_
    refine t2_within_q  ?_
    show fl_Tq _ 114 16 [some (.inr (.inr (.inl (0, 0)))), some (.inl a), some (.inl b)] [.inl (t2_within_v b (1 : Int32) (99 : Int32))] (f, l) _
    by_cases h2 : (t2_within_v b (1 : Int32) (99 : Int32)).toInt = 0
    · refine fl_Tq.zt rfl (fl_bo rfl) (c1_eq_t h2) rfl ?_
      refine fl_Tq.cI (c := (-1 : Int32)) rfl (by decide +kernel) (fl_bo rfl) ?_
      exact fl_Tq.ret rfl rfl rfl (k1 h1 h2)
    · refine fl_Tq.zf rfl (fl_bo rfl) (c1_eq_f h2) rfl ?_
      refine fl_Tq.stp (pc' := 20) (lv' := [some (.inr (.inr (.inl (0, 0)))), some (.inl a), some (.inl b)]) (st' := [.inr (.inr (.inl (0, 0)))]) (m' := (f, l)) rfl rfl (fl_bo rfl) rfl ?_
      refine fl_Tq.stp (pc' := 23) (lv' := [some (.inr (.inr (.inl (0, 0)))), some (.inl a), some (.inl b)]) (st' := [.inr (.inr (.inl (1, 1)))]) (m' := (f, l)) rfl rfl (fl_bo rfl) rfl ?_
      refine fl_Tq.stp (pc' := 26) (lv' := [some (.inr (.inr (.inl (0, 0)))), some (.inl a), some (.inl b)]) (st' := [.inr (.inr (.inl (3, 3)))]) (m' := (f, l)) rfl rfl (fl_bo rfl) rfl ?_
      refine fl_Tq.cal rfl rfl (fl_bo rfl) rfl ?_
      refine c0_bearsPiece_q  ?_
      show fl_Tq _ 114 29 [some (.inr (.inr (.inl (0, 0)))), some (.inl a), some (.inl b)] [.inl (c0_bearsPiece_v f)] (f, l) _
      by_cases h3 : (c0_bearsPiece_v f).toInt = 0
      · refine fl_Tq.zf rfl (fl_bo rfl) (c1_ne_f h3) rfl ?_
        refine fl_Tq.cI (c := (-1 : Int32)) rfl (by decide +kernel) (fl_bo rfl) ?_
        exact fl_Tq.ret rfl rfl rfl (k2 h1 h2 h3)
      · refine fl_Tq.zt rfl (fl_bo rfl) (c1_ne_t h3) rfl ?_
        refine fl_Tq.stp (pc' := 35) (lv' := [some (.inr (.inr (.inl (0, 0)))), some (.inl a), some (.inl b)]) (st' := [.inr (.inr (.inl (0, 0)))]) (m' := (f, l)) rfl rfl (fl_bo rfl) rfl ?_
        refine fl_Tq.stp (pc' := 38) (lv' := [some (.inr (.inr (.inl (0, 0)))), some (.inl a), some (.inl b)]) (st' := [.inr (.inr (.inl (73, 271)))]) (m' := (f, l)) rfl rfl (fl_bo rfl) rfl ?_
        refine fl_Tq.stp (pc' := 39) (lv' := [some (.inr (.inr (.inl (0, 0)))), some (.inl a), some (.inl b)]) (st' := [.inr (.inr (.inl (0, 0))), .inr (.inr (.inl (73, 271)))]) (m' := (f, l)) rfl rfl (fl_bo rfl) rfl ?_
        refine fl_Tq.stp (pc' := 42) (lv' := [some (.inr (.inr (.inl (0, 0)))), some (.inl a), some (.inl b)]) (st' := [.inr (.inr (.inl (1, 1))), .inr (.inr (.inl (73, 271)))]) (m' := (f, l)) rfl rfl (fl_bo rfl) rfl ?_
        exact k3 h1 h2 h3
theorem x_piece_B {L : Nat} {xs : Nat → Int32} {f : t2_F} {l : t2_L} {Q : Option fl_V → fl_M → Prop} {a b : Int32} (hz : 0 ≤ (f 3 7).toInt ∧ (f 3 7).toInt ≤ 23) (k : Q (some (.inl (c0_addPiece_v f a b))) (c0_addPiece_m f a b, l)) : fl_Tq (pw_P L xs) 114 45 [some (.inr (.inr (.inl (0, 0)))), some (.inl a), some (.inl b)] [] (f, l) Q := by
  refine fl_Tq.stp (pc' := 46) (lv' := [some (.inr (.inr (.inl (0, 0)))), some (.inl a), some (.inl b)]) (st' := [.inr (.inr (.inl (0, 0)))]) (m' := (f, l)) rfl rfl (fl_bo rfl) rfl ?_
  refine fl_Tq.stp (pc' := 49) (lv' := [some (.inr (.inr (.inl (0, 0)))), some (.inl a), some (.inl b)]) (st' := [.inr (.inr (.inl (1, 1)))]) (m' := (f, l)) rfl rfl (fl_bo rfl) rfl ?_
  refine fl_Tq.stp (pc' := 52) (lv' := [some (.inr (.inr (.inl (0, 0)))), some (.inl a), some (.inl b)]) (st' := [.inr (.inr (.inl (3, 3)))]) (m' := (f, l)) rfl rfl (fl_bo rfl) rfl ?_
  refine fl_Tq.stp (pc' := 53) (lv' := [some (.inr (.inr (.inl (0, 0)))), some (.inl a), some (.inl b)]) (st' := [.inl a, .inr (.inr (.inl (3, 3)))]) (m' := (f, l)) rfl rfl (fl_bo rfl) rfl ?_
  refine fl_Tq.stp (pc' := 54) (lv' := [some (.inr (.inr (.inl (0, 0)))), some (.inl a), some (.inl b)]) (st' := [.inl b, .inl a, .inr (.inr (.inl (3, 3)))]) (m' := (f, l)) rfl rfl (fl_bo rfl) rfl ?_
  refine fl_Tq.cal rfl rfl (fl_bo rfl) rfl ?_
  refine c0_addPiece_q hz ?_
  show fl_Tq _ 114 57 [some (.inr (.inr (.inl (0, 0)))), some (.inl a), some (.inl b)] [.inl (c0_addPiece_v f a b)] (c0_addPiece_m f a b, l) _
  exact fl_Tq.ret rfl rfl rfl k
theorem x_rule_A {L : Nat} {xs : Nat → Int32} {f : t2_F} {l : t2_L} {Q : Option fl_V → fl_M → Prop} {a b c d e : Int32}  (k : ((t2_within_v a (0 : Int32) (13 : Int32)).toInt = 0) → Q (some (.inl (-1 : Int32))) (f, l)) (k1 : (¬ ((t2_within_v a (0 : Int32) (13 : Int32)).toInt = 0)) → fl_Tq (pw_P L xs) 115 14 [some (.inr (.inr (.inl (0, 0)))), some (.inl a), some (.inl b), some (.inl c), some (.inl d), some (.inl e)] [.inl e, .inl d] (f, l) Q) : fl_Tq (pw_P L xs) 115 0 [some (.inr (.inr (.inl (0, 0)))), some (.inl a), some (.inl b), some (.inl c), some (.inl d), some (.inl e)] [] (f, l) Q := by
  refine fl_Tq.stp (pc' := 1) (lv' := [some (.inr (.inr (.inl (0, 0)))), some (.inl a), some (.inl b), some (.inl c), some (.inl d), some (.inl e)]) (st' := [.inl a]) (m' := (f, l)) rfl rfl (fl_bo rfl) rfl ?_
  refine fl_Tq.cI (c := (0 : Int32)) rfl (by decide +kernel) (fl_bo rfl) ?_
  refine fl_Tq.cB (c := (13 : Int32)) rfl (by decide +kernel) (fl_bo rfl) ?_
  refine fl_Tq.cal rfl rfl (fl_bo rfl) rfl ?_
  refine t2_within_q  ?_
  show fl_Tq _ 115 7 [some (.inr (.inr (.inl (0, 0)))), some (.inl a), some (.inl b), some (.inl c), some (.inl d), some (.inl e)] [.inl (t2_within_v a (0 : Int32) (13 : Int32))] (f, l) _
  by_cases h1 : (t2_within_v a (0 : Int32) (13 : Int32)).toInt = 0
  · refine fl_Tq.zt rfl (fl_bo rfl) (c1_eq_t h1) rfl ?_
    refine fl_Tq.cI (c := (-1 : Int32)) rfl (by decide +kernel) (fl_bo rfl) ?_
    exact fl_Tq.ret rfl rfl rfl (k h1)
  · refine fl_Tq.zf rfl (fl_bo rfl) (c1_eq_f h1) rfl ?_
    refine fl_Tq.stp (pc' := 12) (lv' := [some (.inr (.inr (.inl (0, 0)))), some (.inl a), some (.inl b), some (.inl c), some (.inl d), some (.inl e)]) (st' := [.inl d]) (m' := (f, l)) rfl rfl (fl_bo rfl) rfl ?_
    refine fl_Tq.stp (pc' := 14) (lv' := [some (.inr (.inr (.inl (0, 0)))), some (.inl a), some (.inl b), some (.inl c), some (.inl d), some (.inl e)]) (st' := [.inl e, .inl d]) (m' := (f, l)) rfl rfl (fl_bo rfl) rfl ?_
    exact k1 h1
theorem x_rule_A2 {L : Nat} {xs : Nat → Int32} {f : t2_F} {l : t2_L} {Q : Option fl_V → fl_M → Prop} {a b c d e z : Int32}  (k : (z.toInt = 0) → Q (some (.inl (-1 : Int32))) (f, l)) (k1 : (¬ (z.toInt = 0)) → ((c0_bearsRule_v f).toInt = 0) → Q (some (.inl (-1 : Int32))) (f, l)) (k2 : (¬ (z.toInt = 0)) → (¬ ((c0_bearsRule_v f).toInt = 0)) → fl_Tq (pw_P L xs) 115 43 [some (.inr (.inr (.inl (0, 0)))), some (.inl a), some (.inl b), some (.inl c), some (.inl d), some (.inl e)] [.inr (.inr (.inl (1, 1))), .inr (.inr (.inl (73, 271)))] (f, l) Q) : fl_Tq (pw_P L xs) 115 17 [some (.inr (.inr (.inl (0, 0)))), some (.inl a), some (.inl b), some (.inl c), some (.inl d), some (.inl e)] [.inl z] (f, l) Q := by
  by_cases h1 : z.toInt = 0
  · refine fl_Tq.zt rfl (fl_bo rfl) (c1_eq_t h1) rfl ?_
    refine fl_Tq.cI (c := (-1 : Int32)) rfl (by decide +kernel) (fl_bo rfl) ?_
    exact fl_Tq.ret rfl rfl rfl (k h1)
  · refine fl_Tq.zf rfl (fl_bo rfl) (c1_eq_f h1) rfl ?_
    refine fl_Tq.stp (pc' := 21) (lv' := [some (.inr (.inr (.inl (0, 0)))), some (.inl a), some (.inl b), some (.inl c), some (.inl d), some (.inl e)]) (st' := [.inr (.inr (.inl (0, 0)))]) (m' := (f, l)) rfl rfl (fl_bo rfl) rfl ?_
    refine fl_Tq.stp (pc' := 24) (lv' := [some (.inr (.inr (.inl (0, 0)))), some (.inl a), some (.inl b), some (.inl c), some (.inl d), some (.inl e)]) (st' := [.inr (.inr (.inl (1, 1)))]) (m' := (f, l)) rfl rfl (fl_bo rfl) rfl ?_
    refine fl_Tq.stp (pc' := 27) (lv' := [some (.inr (.inr (.inl (0, 0)))), some (.inl a), some (.inl b), some (.inl c), some (.inl d), some (.inl e)]) (st' := [.inr (.inr (.inl (3, 3)))]) (m' := (f, l)) rfl rfl (fl_bo rfl) rfl ?_
    refine fl_Tq.cal rfl rfl (fl_bo rfl) rfl ?_
    refine c0_bearsRule_q  ?_
    show fl_Tq _ 115 30 [some (.inr (.inr (.inl (0, 0)))), some (.inl a), some (.inl b), some (.inl c), some (.inl d), some (.inl e)] [.inl (c0_bearsRule_v f)] (f, l) _
    by_cases h2 : (c0_bearsRule_v f).toInt = 0
    · refine fl_Tq.zf rfl (fl_bo rfl) (c1_ne_f h2) rfl ?_
      refine fl_Tq.cI (c := (-1 : Int32)) rfl (by decide +kernel) (fl_bo rfl) ?_
      exact fl_Tq.ret rfl rfl rfl (k1 h1 h2)
    · refine fl_Tq.zt rfl (fl_bo rfl) (c1_ne_t h2) rfl ?_
      refine fl_Tq.stp (pc' := 36) (lv' := [some (.inr (.inr (.inl (0, 0)))), some (.inl a), some (.inl b), some (.inl c), some (.inl d), some (.inl e)]) (st' := [.inr (.inr (.inl (0, 0)))]) (m' := (f, l)) rfl rfl (fl_bo rfl) rfl ?_
      refine fl_Tq.stp (pc' := 39) (lv' := [some (.inr (.inr (.inl (0, 0)))), some (.inl a), some (.inl b), some (.inl c), some (.inl d), some (.inl e)]) (st' := [.inr (.inr (.inl (73, 271)))]) (m' := (f, l)) rfl rfl (fl_bo rfl) rfl ?_
      refine fl_Tq.stp (pc' := 40) (lv' := [some (.inr (.inr (.inl (0, 0)))), some (.inl a), some (.inl b), some (.inl c), some (.inl d), some (.inl e)]) (st' := [.inr (.inr (.inl (0, 0))), .inr (.inr (.inl (73, 271)))]) (m' := (f, l)) rfl rfl (fl_bo rfl) rfl ?_
      refine fl_Tq.stp (pc' := 43) (lv' := [some (.inr (.inr (.inl (0, 0)))), some (.inl a), some (.inl b), some (.inl c), some (.inl d), some (.inl e)]) (st' := [.inr (.inr (.inl (1, 1))), .inr (.inr (.inl (73, 271)))]) (m' := (f, l)) rfl rfl (fl_bo rfl) rfl ?_
      exact k2 h1 h2
theorem x_rule_B {L : Nat} {xs : Nat → Int32} {f : t2_F} {l : t2_L} {Q : Option fl_V → fl_M → Prop} {a b c d e : Int32} (hz : 0 ≤ (f 3 8).toInt ∧ (f 3 8).toInt ≤ 7) (k : Q (some (.inl (c0_addRule_v f a (if b.toInt = 0 then (0 : Int32) else (1 : Int32)) c d e))) (c0_addRule_m f a (if b.toInt = 0 then (0 : Int32) else (1 : Int32)) c d e, l)) : fl_Tq (pw_P L xs) 115 46 [some (.inr (.inr (.inl (0, 0)))), some (.inl a), some (.inl b), some (.inl c), some (.inl d), some (.inl e)] [] (f, l) Q := by
  refine fl_Tq.stp (pc' := 47) (lv' := [some (.inr (.inr (.inl (0, 0)))), some (.inl a), some (.inl b), some (.inl c), some (.inl d), some (.inl e)]) (st' := [.inr (.inr (.inl (0, 0)))]) (m' := (f, l)) rfl rfl (fl_bo rfl) rfl ?_
  refine fl_Tq.stp (pc' := 50) (lv' := [some (.inr (.inr (.inl (0, 0)))), some (.inl a), some (.inl b), some (.inl c), some (.inl d), some (.inl e)]) (st' := [.inr (.inr (.inl (1, 1)))]) (m' := (f, l)) rfl rfl (fl_bo rfl) rfl ?_
  refine fl_Tq.stp (pc' := 53) (lv' := [some (.inr (.inr (.inl (0, 0)))), some (.inl a), some (.inl b), some (.inl c), some (.inl d), some (.inl e)]) (st' := [.inr (.inr (.inl (3, 3)))]) (m' := (f, l)) rfl rfl (fl_bo rfl) rfl ?_
  refine fl_Tq.stp (pc' := 54) (lv' := [some (.inr (.inr (.inl (0, 0)))), some (.inl a), some (.inl b), some (.inl c), some (.inl d), some (.inl e)]) (st' := [.inl a, .inr (.inr (.inl (3, 3)))]) (m' := (f, l)) rfl rfl (fl_bo rfl) rfl ?_
  refine fl_Tq.stp (pc' := 55) (lv' := [some (.inr (.inr (.inl (0, 0)))), some (.inl a), some (.inl b), some (.inl c), some (.inl d), some (.inl e)]) (st' := [.inl b, .inl a, .inr (.inr (.inl (3, 3)))]) (m' := (f, l)) rfl rfl (fl_bo rfl) rfl ?_
  have hj178 : fl_Tq (pw_P L xs) 115 63 [some (.inr (.inr (.inl (0, 0)))), some (.inl a), some (.inl b), some (.inl c), some (.inl d), some (.inl e)] [.inl (if b.toInt = 0 then (0 : Int32) else (1 : Int32)), .inl a, .inr (.inr (.inl (3, 3)))] (f, l) Q → fl_Tq (pw_P L xs) 115 55 [some (.inr (.inr (.inl (0, 0)))), some (.inl a), some (.inl b), some (.inl c), some (.inl d), some (.inl e)] [.inl b, .inl a, .inr (.inr (.inl (3, 3)))] (f, l) Q := by
    intro hJ
    by_cases h1 : b.toInt = 0
    · refine fl_Tq.zt rfl (fl_bo rfl) (c1_eq_t h1) rfl ?_
      refine fl_Tq.cI (c := (0 : Int32)) rfl (by decide +kernel) (fl_bo rfl) ?_
      have e0 : (if b.toInt = 0 then (0 : Int32) else (1 : Int32)) = (0 : Int32) := by simp only [if_pos h1]
      rw [e0] at hJ
      exact hJ
    · refine fl_Tq.zf rfl (fl_bo rfl) (c1_eq_f h1) rfl ?_
      refine fl_Tq.cI (c := (1 : Int32)) rfl (by decide +kernel) (fl_bo rfl) ?_
      refine fl_Tq.stp (pc' := 63) (lv' := [some (.inr (.inr (.inl (0, 0)))), some (.inl a), some (.inl b), some (.inl c), some (.inl d), some (.inl e)]) (st' := [.inl (1 : Int32), .inl a, .inr (.inr (.inl (3, 3)))]) (m' := (f, l)) rfl rfl (fl_bo rfl) rfl ?_
      have e0 : (if b.toInt = 0 then (0 : Int32) else (1 : Int32)) = (1 : Int32) := by simp only [if_neg h1]
      rw [e0] at hJ
      exact hJ
  refine hj178 ?_
  show fl_Tq _ 115 63 [some (.inr (.inr (.inl (0, 0)))), some (.inl a), some (.inl b), some (.inl c), some (.inl d), some (.inl e)] [.inl (if b.toInt = 0 then (0 : Int32) else (1 : Int32)), .inl a, .inr (.inr (.inl (3, 3)))] (f, l) _
  refine fl_Tq.stp (pc' := 64) (lv' := [some (.inr (.inr (.inl (0, 0)))), some (.inl a), some (.inl b), some (.inl c), some (.inl d), some (.inl e)]) (st' := [.inl c, .inl (if b.toInt = 0 then (0 : Int32) else (1 : Int32)), .inl a, .inr (.inr (.inl (3, 3)))]) (m' := (f, l)) rfl rfl (fl_bo rfl) rfl ?_
  refine fl_Tq.stp (pc' := 66) (lv' := [some (.inr (.inr (.inl (0, 0)))), some (.inl a), some (.inl b), some (.inl c), some (.inl d), some (.inl e)]) (st' := [.inl d, .inl c, .inl (if b.toInt = 0 then (0 : Int32) else (1 : Int32)), .inl a, .inr (.inr (.inl (3, 3)))]) (m' := (f, l)) rfl rfl (fl_bo rfl) rfl ?_
  refine fl_Tq.stp (pc' := 68) (lv' := [some (.inr (.inr (.inl (0, 0)))), some (.inl a), some (.inl b), some (.inl c), some (.inl d), some (.inl e)]) (st' := [.inl e, .inl d, .inl c, .inl (if b.toInt = 0 then (0 : Int32) else (1 : Int32)), .inl a, .inr (.inr (.inl (3, 3)))]) (m' := (f, l)) rfl rfl (fl_bo rfl) rfl ?_
  refine fl_Tq.cal rfl rfl (fl_bo rfl) rfl ?_
  refine c0_addRule_q hz ?_
  show fl_Tq _ 115 71 [some (.inr (.inr (.inl (0, 0)))), some (.inl a), some (.inl b), some (.inl c), some (.inl d), some (.inl e)] [.inl (c0_addRule_v f a (if b.toInt = 0 then (0 : Int32) else (1 : Int32)) c d e)] (c0_addRule_m f a (if b.toInt = 0 then (0 : Int32) else (1 : Int32)) c d e, l) _
  exact fl_Tq.ret rfl rfl rfl k
theorem x_drive_A {L : Nat} {xs : Nat → Int32} {f : t2_F} {l : t2_L} {Q : Option fl_V → fl_M → Prop}  (hz : 0 ≤ (f 3 7).toInt ∧ (f 3 7).toInt ≤ 24) (k : ((f 3 7).toInt = 0) → Q (some (.inl (-1 : Int32))) (f, l)) (k1 : (¬ ((f 3 7).toInt = 0)) → ((9999 : Int32).toInt < ((f 1 6) + (c0_pieceSeconds_v f)).toInt) → Q (some (.inl (-1 : Int32))) (f, l)) (k2 : (¬ ((f 3 7).toInt = 0)) → (¬ ((9999 : Int32).toInt < ((f 1 6) + (c0_pieceSeconds_v f)).toInt)) → fl_Tq (pw_P L xs) 118 47 [some (.inr (.inr (.inl (0, 0))))] [.inr (.inr (.inl (1, 1))), .inr (.inr (.inl (73, 271)))] (f, l) Q) : fl_Tq (pw_P L xs) 118 0 [some (.inr (.inr (.inl (0, 0))))] [] (f, l) Q := by
  refine fl_Tq.stp (pc' := 1) (lv' := [some (.inr (.inr (.inl (0, 0))))]) (st' := [.inr (.inr (.inl (0, 0)))]) (m' := (f, l)) rfl rfl (fl_bo rfl) rfl ?_
  refine fl_Tq.stp (pc' := 4) (lv' := [some (.inr (.inr (.inl (0, 0))))]) (st' := [.inr (.inr (.inl (1, 1)))]) (m' := (f, l)) rfl rfl (fl_bo rfl) rfl ?_
  refine fl_Tq.stp (pc' := 7) (lv' := [some (.inr (.inr (.inl (0, 0))))]) (st' := [.inr (.inr (.inl (3, 3)))]) (m' := (f, l)) rfl rfl (fl_bo rfl) rfl ?_
  refine fl_Tq.gfV (k := 7) (v := f 3 7) rfl (fl_bo rfl) rfl rfl ?_
  by_cases h1 : (f 3 7).toInt = 0
  · refine fl_Tq.zt rfl (fl_bo rfl) (c1_eq_t h1) rfl ?_
    refine fl_Tq.cI (c := (-1 : Int32)) rfl (by decide +kernel) (fl_bo rfl) ?_
    exact fl_Tq.ret rfl rfl rfl (k h1)
  · refine fl_Tq.zf rfl (fl_bo rfl) (c1_eq_f h1) rfl ?_
    refine fl_Tq.stp (pc' := 14) (lv' := [some (.inr (.inr (.inl (0, 0))))]) (st' := [.inr (.inr (.inl (0, 0)))]) (m' := (f, l)) rfl rfl (fl_bo rfl) rfl ?_
    refine fl_Tq.stp (pc' := 17) (lv' := [some (.inr (.inr (.inl (0, 0))))]) (st' := [.inr (.inr (.inl (1, 1)))]) (m' := (f, l)) rfl rfl (fl_bo rfl) rfl ?_
    refine fl_Tq.gfV (k := 6) (v := f 1 6) rfl (fl_bo rfl) rfl rfl ?_
    refine fl_Tq.stp (pc' := 21) (lv' := [some (.inr (.inr (.inl (0, 0))))]) (st' := [.inr (.inr (.inl (0, 0))), .inl (f 1 6)]) (m' := (f, l)) rfl rfl (fl_bo rfl) rfl ?_
    refine fl_Tq.stp (pc' := 24) (lv' := [some (.inr (.inr (.inl (0, 0))))]) (st' := [.inr (.inr (.inl (1, 1))), .inl (f 1 6)]) (m' := (f, l)) rfl rfl (fl_bo rfl) rfl ?_
    refine fl_Tq.stp (pc' := 27) (lv' := [some (.inr (.inr (.inl (0, 0))))]) (st' := [.inr (.inr (.inl (3, 3))), .inl (f 1 6)]) (m' := (f, l)) rfl rfl (fl_bo rfl) rfl ?_
    refine fl_Tq.cal rfl rfl (fl_bo rfl) rfl ?_
    refine c0_pieceSeconds_q hz ?_
    show fl_Tq _ 118 30 [some (.inr (.inr (.inl (0, 0))))] [.inl (c0_pieceSeconds_v f), .inl (f 1 6)] (f, l) _
    refine fl_Tq.stp (pc' := 31) (lv' := [some (.inr (.inr (.inl (0, 0))))]) (st' := [.inl ((f 1 6) + (c0_pieceSeconds_v f))]) (m' := (f, l)) rfl rfl (fl_bo rfl) rfl ?_
    refine fl_Tq.cS (c := (9999 : Int32)) rfl (by decide +kernel) (fl_bo rfl) ?_
    by_cases h2 : (9999 : Int32).toInt < ((f 1 6) + (c0_pieceSeconds_v f)).toInt
    · refine fl_Tq.jf rfl (fl_bo rfl) (c2_le_f h2) rfl ?_
      refine fl_Tq.cI (c := (-1 : Int32)) rfl (by decide +kernel) (fl_bo rfl) ?_
      exact fl_Tq.ret rfl rfl rfl (k1 h1 h2)
    · refine fl_Tq.jt rfl (fl_bo rfl) (c2_le_t h2) rfl ?_
      refine fl_Tq.stp (pc' := 40) (lv' := [some (.inr (.inr (.inl (0, 0))))]) (st' := [.inr (.inr (.inl (0, 0)))]) (m' := (f, l)) rfl rfl (fl_bo rfl) rfl ?_
      refine fl_Tq.stp (pc' := 43) (lv' := [some (.inr (.inr (.inl (0, 0))))]) (st' := [.inr (.inr (.inl (73, 271)))]) (m' := (f, l)) rfl rfl (fl_bo rfl) rfl ?_
      refine fl_Tq.stp (pc' := 44) (lv' := [some (.inr (.inr (.inl (0, 0))))]) (st' := [.inr (.inr (.inl (0, 0))), .inr (.inr (.inl (73, 271)))]) (m' := (f, l)) rfl rfl (fl_bo rfl) rfl ?_
      refine fl_Tq.stp (pc' := 47) (lv' := [some (.inr (.inr (.inl (0, 0))))]) (st' := [.inr (.inr (.inl (1, 1))), .inr (.inr (.inl (73, 271)))]) (m' := (f, l)) rfl rfl (fl_bo rfl) rfl ?_
      exact k2 h1 h2
theorem x_drive_B {L : Nat} {xs : Nat → Int32} {f : t2_F} {l : t2_L} {Q : Option fl_V → fl_M → Prop}   (k : fl_Tq (pw_P L xs) 118 54 [some (.inr (.inr (.inl (0, 0))))] [.inr (.inr (.inl (1, 1)))] (f, l) Q) : fl_Tq (pw_P L xs) 118 50 [some (.inr (.inr (.inl (0, 0))))] [] (f, l) Q := by
  refine fl_Tq.stp (pc' := 51) (lv' := [some (.inr (.inr (.inl (0, 0))))]) (st' := [.inr (.inr (.inl (0, 0)))]) (m' := (f, l)) rfl rfl (fl_bo rfl) rfl ?_
  refine fl_Tq.stp (pc' := 54) (lv' := [some (.inr (.inr (.inl (0, 0))))]) (st' := [.inr (.inr (.inl (1, 1)))]) (m' := (f, l)) rfl rfl (fl_bo rfl) rfl ?_
  exact k
theorem x_run_A {L : Nat} {xs : Nat → Int32} {f : t2_F} {l : t2_L} {Q : Option fl_V → fl_M → Prop} {a : Int32}  (k : ((t2_within_v a (1 : Int32) (300 : Int32)).toInt = 0) → Q (some (.inl (-1 : Int32))) (f, l)) (k1 : (¬ ((t2_within_v a (1 : Int32) (300 : Int32)).toInt = 0)) → ((9999 : Int32).toInt < ((f 1 6) + a).toInt) → Q (some (.inl (-1 : Int32))) (f, l)) (k2 : (¬ ((t2_within_v a (1 : Int32) (300 : Int32)).toInt = 0)) → (¬ ((9999 : Int32).toInt < ((f 1 6) + a).toInt)) → fl_Tq (pw_P L xs) 105 36 [some (.inr (.inr (.inl (0, 0)))), some (.inl a)] [.inr (.inr (.inl (1, 1))), .inr (.inr (.inl (73, 271)))] (f, l) Q) : fl_Tq (pw_P L xs) 105 0 [some (.inr (.inr (.inl (0, 0)))), some (.inl a)] [] (f, l) Q := by
  refine fl_Tq.stp (pc' := 1) (lv' := [some (.inr (.inr (.inl (0, 0)))), some (.inl a)]) (st' := [.inl a]) (m' := (f, l)) rfl rfl (fl_bo rfl) rfl ?_
  refine fl_Tq.cI (c := (1 : Int32)) rfl (by decide +kernel) (fl_bo rfl) ?_
  refine fl_Tq.cS (c := (300 : Int32)) rfl (by decide +kernel) (fl_bo rfl) ?_
  refine fl_Tq.cal rfl rfl (fl_bo rfl) rfl ?_
  refine t2_within_q  ?_
  show fl_Tq _ 105 8 [some (.inr (.inr (.inl (0, 0)))), some (.inl a)] [.inl (t2_within_v a (1 : Int32) (300 : Int32))] (f, l) _
  by_cases h1 : (t2_within_v a (1 : Int32) (300 : Int32)).toInt = 0
  · refine fl_Tq.zt rfl (fl_bo rfl) (c1_eq_t h1) rfl ?_
    refine fl_Tq.cI (c := (-1 : Int32)) rfl (by decide +kernel) (fl_bo rfl) ?_
    exact fl_Tq.ret rfl rfl rfl (k h1)
  · refine fl_Tq.zf rfl (fl_bo rfl) (c1_eq_f h1) rfl ?_
    refine fl_Tq.stp (pc' := 12) (lv' := [some (.inr (.inr (.inl (0, 0)))), some (.inl a)]) (st' := [.inr (.inr (.inl (0, 0)))]) (m' := (f, l)) rfl rfl (fl_bo rfl) rfl ?_
    refine fl_Tq.stp (pc' := 15) (lv' := [some (.inr (.inr (.inl (0, 0)))), some (.inl a)]) (st' := [.inr (.inr (.inl (1, 1)))]) (m' := (f, l)) rfl rfl (fl_bo rfl) rfl ?_
    refine fl_Tq.gfV (k := 6) (v := f 1 6) rfl (fl_bo rfl) rfl rfl ?_
    refine fl_Tq.stp (pc' := 19) (lv' := [some (.inr (.inr (.inl (0, 0)))), some (.inl a)]) (st' := [.inl a, .inl (f 1 6)]) (m' := (f, l)) rfl rfl (fl_bo rfl) rfl ?_
    refine fl_Tq.stp (pc' := 20) (lv' := [some (.inr (.inr (.inl (0, 0)))), some (.inl a)]) (st' := [.inl ((f 1 6) + a)]) (m' := (f, l)) rfl rfl (fl_bo rfl) rfl ?_
    refine fl_Tq.cS (c := (9999 : Int32)) rfl (by decide +kernel) (fl_bo rfl) ?_
    by_cases h2 : (9999 : Int32).toInt < ((f 1 6) + a).toInt
    · refine fl_Tq.jf rfl (fl_bo rfl) (c2_le_f h2) rfl ?_
      refine fl_Tq.cI (c := (-1 : Int32)) rfl (by decide +kernel) (fl_bo rfl) ?_
      exact fl_Tq.ret rfl rfl rfl (k1 h1 h2)
    · refine fl_Tq.jt rfl (fl_bo rfl) (c2_le_t h2) rfl ?_
      refine fl_Tq.stp (pc' := 29) (lv' := [some (.inr (.inr (.inl (0, 0)))), some (.inl a)]) (st' := [.inr (.inr (.inl (0, 0)))]) (m' := (f, l)) rfl rfl (fl_bo rfl) rfl ?_
      refine fl_Tq.stp (pc' := 32) (lv' := [some (.inr (.inr (.inl (0, 0)))), some (.inl a)]) (st' := [.inr (.inr (.inl (73, 271)))]) (m' := (f, l)) rfl rfl (fl_bo rfl) rfl ?_
      refine fl_Tq.stp (pc' := 33) (lv' := [some (.inr (.inr (.inl (0, 0)))), some (.inl a)]) (st' := [.inr (.inr (.inl (0, 0))), .inr (.inr (.inl (73, 271)))]) (m' := (f, l)) rfl rfl (fl_bo rfl) rfl ?_
      refine fl_Tq.stp (pc' := 36) (lv' := [some (.inr (.inr (.inl (0, 0)))), some (.inl a)]) (st' := [.inr (.inr (.inl (1, 1))), .inr (.inr (.inl (73, 271)))]) (m' := (f, l)) rfl rfl (fl_bo rfl) rfl ?_
      exact k2 h1 h2
theorem x_run_B {L : Nat} {xs : Nat → Int32} {f : t2_F} {l : t2_L} {Q : Option fl_V → fl_M → Prop} {a : Int32}  (k : fl_Tq (pw_P L xs) 105 44 [some (.inr (.inr (.inl (0, 0)))), some (.inl a)] [.inl a, .inr (.inr (.inl (1, 1)))] (f, l) Q) : fl_Tq (pw_P L xs) 105 39 [some (.inr (.inr (.inl (0, 0)))), some (.inl a)] [] (f, l) Q := by
  refine fl_Tq.stp (pc' := 40) (lv' := [some (.inr (.inr (.inl (0, 0)))), some (.inl a)]) (st' := [.inr (.inr (.inl (0, 0)))]) (m' := (f, l)) rfl rfl (fl_bo rfl) rfl ?_
  refine fl_Tq.stp (pc' := 43) (lv' := [some (.inr (.inr (.inl (0, 0)))), some (.inl a)]) (st' := [.inr (.inr (.inl (1, 1)))]) (m' := (f, l)) rfl rfl (fl_bo rfl) rfl ?_
  refine fl_Tq.stp (pc' := 44) (lv' := [some (.inr (.inr (.inl (0, 0)))), some (.inl a)]) (st' := [.inl a, .inr (.inr (.inl (1, 1)))]) (m' := (f, l)) rfl rfl (fl_bo rfl) rfl ?_
  exact k
theorem x_warm_A {L : Nat} {xs : Nat → Int32} {f : t2_F} {l : t2_L} {Q : Option fl_V → fl_M → Prop} {a b : Int32}  (k : ((c0_hasCell_v f a).toInt = 0) → Q (some (.inl (0 : Int32))) (f, l)) (k1 : (¬ ((c0_hasCell_v f a).toInt = 0)) → fl_Tq (pw_P L xs) 103 11 [some (.inr (.inr (.inl (0, 0)))), some (.inl a), some (.inl b)] [] (f, l) Q) : fl_Tq (pw_P L xs) 103 0 [some (.inr (.inr (.inl (0, 0)))), some (.inl a), some (.inl b)] [] (f, l) Q := by
  refine fl_Tq.stp (pc' := 1) (lv' := [some (.inr (.inr (.inl (0, 0)))), some (.inl a), some (.inl b)]) (st' := [.inr (.inr (.inl (0, 0)))]) (m' := (f, l)) rfl rfl (fl_bo rfl) rfl ?_
  refine fl_Tq.stp (pc' := 4) (lv' := [some (.inr (.inr (.inl (0, 0)))), some (.inl a), some (.inl b)]) (st' := [.inr (.inr (.inl (1, 1)))]) (m' := (f, l)) rfl rfl (fl_bo rfl) rfl ?_
  refine fl_Tq.stp (pc' := 5) (lv' := [some (.inr (.inr (.inl (0, 0)))), some (.inl a), some (.inl b)]) (st' := [.inl a, .inr (.inr (.inl (1, 1)))]) (m' := (f, l)) rfl rfl (fl_bo rfl) rfl ?_
  refine fl_Tq.cal rfl rfl (fl_bo rfl) rfl ?_
  refine c0_hasCell_q  ?_
  show fl_Tq _ 103 8 [some (.inr (.inr (.inl (0, 0)))), some (.inl a), some (.inl b)] [.inl (c0_hasCell_v f a)] (f, l) _
  by_cases h1 : (c0_hasCell_v f a).toInt = 0
  · refine fl_Tq.zt rfl (fl_bo rfl) (c1_eq_t h1) rfl ?_
    refine fl_Tq.cI (c := (0 : Int32)) rfl (by decide +kernel) (fl_bo rfl) ?_
    exact fl_Tq.ret rfl rfl rfl (k h1)
  · refine fl_Tq.zf rfl (fl_bo rfl) (c1_eq_f h1) rfl ?_
    exact k1 h1
theorem x_warm_A2 {L : Nat} {xs : Nat → Int32} {f : t2_F} {l : t2_L} {Q : Option fl_V → fl_M → Prop} {a b : Int32}  (k : ((t2_within_v b (-400 : Int32) (1200 : Int32)).toInt = 0) → Q (some (.inl (0 : Int32))) (f, l)) (k1 : (¬ ((t2_within_v b (-400 : Int32) (1200 : Int32)).toInt = 0)) → fl_Tq (pw_P L xs) 103 34 [some (.inr (.inr (.inl (0, 0)))), some (.inl a), some (.inl b)] [.inr (.inr (.inl (1, 1))), .inr (.inr (.inl (73, 271)))] (f, l) Q) : fl_Tq (pw_P L xs) 103 11 [some (.inr (.inr (.inl (0, 0)))), some (.inl a), some (.inl b)] [] (f, l) Q := by
  refine fl_Tq.stp (pc' := 12) (lv' := [some (.inr (.inr (.inl (0, 0)))), some (.inl a), some (.inl b)]) (st' := [.inl b]) (m' := (f, l)) rfl rfl (fl_bo rfl) rfl ?_
  refine fl_Tq.cS (c := (-400 : Int32)) rfl (by decide +kernel) (fl_bo rfl) ?_
  refine fl_Tq.cS (c := (1200 : Int32)) rfl (by decide +kernel) (fl_bo rfl) ?_
  refine fl_Tq.cal rfl rfl (fl_bo rfl) rfl ?_
  refine t2_within_q  ?_
  show fl_Tq _ 103 21 [some (.inr (.inr (.inl (0, 0)))), some (.inl a), some (.inl b)] [.inl (t2_within_v b (-400 : Int32) (1200 : Int32))] (f, l) _
  by_cases h1 : (t2_within_v b (-400 : Int32) (1200 : Int32)).toInt = 0
  · refine fl_Tq.zf rfl (fl_bo rfl) (c1_ne_f h1) rfl ?_
    refine fl_Tq.cI (c := (0 : Int32)) rfl (by decide +kernel) (fl_bo rfl) ?_
    exact fl_Tq.ret rfl rfl rfl (k h1)
  · refine fl_Tq.zt rfl (fl_bo rfl) (c1_ne_t h1) rfl ?_
    refine fl_Tq.stp (pc' := 27) (lv' := [some (.inr (.inr (.inl (0, 0)))), some (.inl a), some (.inl b)]) (st' := [.inr (.inr (.inl (0, 0)))]) (m' := (f, l)) rfl rfl (fl_bo rfl) rfl ?_
    refine fl_Tq.stp (pc' := 30) (lv' := [some (.inr (.inr (.inl (0, 0)))), some (.inl a), some (.inl b)]) (st' := [.inr (.inr (.inl (73, 271)))]) (m' := (f, l)) rfl rfl (fl_bo rfl) rfl ?_
    refine fl_Tq.stp (pc' := 31) (lv' := [some (.inr (.inr (.inl (0, 0)))), some (.inl a), some (.inl b)]) (st' := [.inr (.inr (.inl (0, 0))), .inr (.inr (.inl (73, 271)))]) (m' := (f, l)) rfl rfl (fl_bo rfl) rfl ?_
    refine fl_Tq.stp (pc' := 34) (lv' := [some (.inr (.inr (.inl (0, 0)))), some (.inl a), some (.inl b)]) (st' := [.inr (.inr (.inl (1, 1))), .inr (.inr (.inl (73, 271)))]) (m' := (f, l)) rfl rfl (fl_bo rfl) rfl ?_
    exact k1 h1
theorem x_warm_B {L : Nat} {xs : Nat → Int32} {f : t2_F} {l : t2_L} {Q : Option fl_V → fl_M → Prop} {a b : Int32} {A : Nat} (hA : a.toInt = (A : Int)) (hA1 : A < 16) (k : Q (some (.inl (1 : Int32))) (fl_row f (18 + 4 * A) (upd (f (18 + 4 * A)) 6 b), l)) : fl_Tq (pw_P L xs) 103 37 [some (.inr (.inr (.inl (0, 0)))), some (.inl a), some (.inl b)] [] (f, l) Q := by
  refine fl_Tq.stp (pc' := 38) (lv' := [some (.inr (.inr (.inl (0, 0)))), some (.inl a), some (.inl b)]) (st' := [.inr (.inr (.inl (0, 0)))]) (m' := (f, l)) rfl rfl (fl_bo rfl) rfl ?_
  refine fl_Tq.stp (pc' := 41) (lv' := [some (.inr (.inr (.inl (0, 0)))), some (.inl a), some (.inl b)]) (st' := [.inr (.inr (.inl (1, 1)))]) (m' := (f, l)) rfl rfl (fl_bo rfl) rfl ?_
  refine fl_Tq.stp (pc' := 44) (lv' := [some (.inr (.inr (.inl (0, 0)))), some (.inl a), some (.inl b)]) (st' := [.inr (.inr (.inl (2, 2)))]) (m' := (f, l)) rfl rfl (fl_bo rfl) rfl ?_
  refine fl_Tq.stp (pc' := 45) (lv' := [some (.inr (.inr (.inl (0, 0)))), some (.inl a), some (.inl b)]) (st' := [.inl a, .inr (.inr (.inl (2, 2)))]) (m' := (f, l)) rfl rfl (fl_bo rfl) rfl ?_
  refine fl_Tq.qld (p := 2) (τ := 2) (n := 16) (t := 18) (b := 16) (d := 3) (k := A) rfl (fl_bo rfl) rfl hA hA1 ?_
  show fl_Tq _ 103 46 [some (.inr (.inr (.inl (0, 0)))), some (.inl a), some (.inl b)] [.inr (.inr (.inl (18, 18 + 4 * A)))] (f, l) _
  refine fl_Tq.stp (pc' := 47) (lv' := [some (.inr (.inr (.inl (0, 0)))), some (.inl a), some (.inl b)]) (st' := [.inl b, .inr (.inr (.inl (18, 18 + 4 * A)))]) (m' := (f, l)) rfl rfl (fl_oks_ok ⟨(t2_kc0 hA1), True.intro⟩) rfl ?_
  refine fl_Tq.pfV (k := 6) (m' := (fl_row f (18 + 4 * A) (upd (f (18 + 4 * A)) 6 b), l)) rfl (fl_oks_ok ⟨True.intro, (t2_kc0 hA1), True.intro⟩) rfl (t2_upn rfl) ?_
  refine fl_Tq.cI (c := (1 : Int32)) rfl (by decide +kernel) (fl_bo rfl) ?_
  exact fl_Tq.ret rfl rfl rfl k
theorem x_charge_A {L : Nat} {xs : Nat → Int32} {f : t2_F} {l : t2_L} {Q : Option fl_V → fl_M → Prop} {a b : Int32}  (k : ((c0_hasCell_v f a).toInt = 0) → Q (some (.inl (0 : Int32))) (f, l)) (k1 : (¬ ((c0_hasCell_v f a).toInt = 0)) → fl_Tq (pw_P L xs) 102 11 [some (.inr (.inr (.inl (0, 0)))), some (.inl a), some (.inl b)] [] (f, l) Q) : fl_Tq (pw_P L xs) 102 0 [some (.inr (.inr (.inl (0, 0)))), some (.inl a), some (.inl b)] [] (f, l) Q := by
  refine fl_Tq.stp (pc' := 1) (lv' := [some (.inr (.inr (.inl (0, 0)))), some (.inl a), some (.inl b)]) (st' := [.inr (.inr (.inl (0, 0)))]) (m' := (f, l)) rfl rfl (fl_bo rfl) rfl ?_
  refine fl_Tq.stp (pc' := 4) (lv' := [some (.inr (.inr (.inl (0, 0)))), some (.inl a), some (.inl b)]) (st' := [.inr (.inr (.inl (1, 1)))]) (m' := (f, l)) rfl rfl (fl_bo rfl) rfl ?_
  refine fl_Tq.stp (pc' := 5) (lv' := [some (.inr (.inr (.inl (0, 0)))), some (.inl a), some (.inl b)]) (st' := [.inl a, .inr (.inr (.inl (1, 1)))]) (m' := (f, l)) rfl rfl (fl_bo rfl) rfl ?_
  refine fl_Tq.cal rfl rfl (fl_bo rfl) rfl ?_
  refine c0_hasCell_q  ?_
  show fl_Tq _ 102 8 [some (.inr (.inr (.inl (0, 0)))), some (.inl a), some (.inl b)] [.inl (c0_hasCell_v f a)] (f, l) _
  by_cases h1 : (c0_hasCell_v f a).toInt = 0
  · refine fl_Tq.zt rfl (fl_bo rfl) (c1_eq_t h1) rfl ?_
    refine fl_Tq.cI (c := (0 : Int32)) rfl (by decide +kernel) (fl_bo rfl) ?_
    exact fl_Tq.ret rfl rfl rfl (k h1)
  · refine fl_Tq.zf rfl (fl_bo rfl) (c1_eq_f h1) rfl ?_
    exact k1 h1
theorem x_charge_A2 {L : Nat} {xs : Nat → Int32} {f : t2_F} {l : t2_L} {Q : Option fl_V → fl_M → Prop} {a b : Int32} {A : Nat} (hA : a.toInt = (A : Int)) (hA1 : A < 16) (k : ((t2_within_v b (0 : Int32) ((f (18 + 4 * A) 0) * (3600 : Int32))).toInt = 0) → Q (some (.inl (0 : Int32))) (f, l)) (k1 : (¬ ((t2_within_v b (0 : Int32) ((f (18 + 4 * A) 0) * (3600 : Int32))).toInt = 0)) → fl_Tq (pw_P L xs) 102 41 [some (.inr (.inr (.inl (0, 0)))), some (.inl a), some (.inl b)] [.inr (.inr (.inl (1, 1))), .inr (.inr (.inl (73, 271)))] (f, l) Q) : fl_Tq (pw_P L xs) 102 11 [some (.inr (.inr (.inl (0, 0)))), some (.inl a), some (.inl b)] [] (f, l) Q := by
  refine fl_Tq.stp (pc' := 12) (lv' := [some (.inr (.inr (.inl (0, 0)))), some (.inl a), some (.inl b)]) (st' := [.inl b]) (m' := (f, l)) rfl rfl (fl_bo rfl) rfl ?_
  refine fl_Tq.cI (c := (0 : Int32)) rfl (by decide +kernel) (fl_bo rfl) ?_
  refine fl_Tq.stp (pc' := 14) (lv' := [some (.inr (.inr (.inl (0, 0)))), some (.inl a), some (.inl b)]) (st' := [.inr (.inr (.inl (0, 0))), .inl (0 : Int32), .inl b]) (m' := (f, l)) rfl rfl (fl_bo rfl) rfl ?_
  refine fl_Tq.stp (pc' := 17) (lv' := [some (.inr (.inr (.inl (0, 0)))), some (.inl a), some (.inl b)]) (st' := [.inr (.inr (.inl (1, 1))), .inl (0 : Int32), .inl b]) (m' := (f, l)) rfl rfl (fl_bo rfl) rfl ?_
  refine fl_Tq.stp (pc' := 20) (lv' := [some (.inr (.inr (.inl (0, 0)))), some (.inl a), some (.inl b)]) (st' := [.inr (.inr (.inl (2, 2))), .inl (0 : Int32), .inl b]) (m' := (f, l)) rfl rfl (fl_bo rfl) rfl ?_
  refine fl_Tq.stp (pc' := 21) (lv' := [some (.inr (.inr (.inl (0, 0)))), some (.inl a), some (.inl b)]) (st' := [.inl a, .inr (.inr (.inl (2, 2))), .inl (0 : Int32), .inl b]) (m' := (f, l)) rfl rfl (fl_bo rfl) rfl ?_
  refine fl_Tq.qld (p := 2) (τ := 2) (n := 16) (t := 18) (b := 16) (d := 3) (k := A) rfl (fl_bo rfl) rfl hA hA1 ?_
  show fl_Tq _ 102 22 [some (.inr (.inr (.inl (0, 0)))), some (.inl a), some (.inl b)] [.inr (.inr (.inl (18, 18 + 4 * A))), .inl (0 : Int32), .inl b] (f, l) _
  refine fl_Tq.cal rfl rfl (fl_oks_ok ⟨(t2_kc0 hA1), True.intro, True.intro, True.intro⟩) rfl ?_
  refine fl_Tq.stp (pc' := 1) (lv' := [some (.inr (.inr (.inl (18, 18 + 4 * A))))]) (st' := [.inr (.inr (.inl (18, 18 + 4 * A)))]) (m' := (f, l)) rfl rfl (fl_bo rfl) rfl ?_
  refine fl_Tq.gfV (k := 0) (v := f (18 + 4 * A) 0) rfl (fl_oks_ok ⟨(t2_kc0 hA1), True.intro⟩) rfl rfl ?_
  refine fl_Tq.cS (c := (3600 : Int32)) rfl (by decide +kernel) (fl_bo rfl) ?_
  refine fl_Tq.stp (pc' := 8) (lv' := [some (.inr (.inr (.inl (18, 18 + 4 * A))))]) (st' := [.inl ((f (18 + 4 * A) 0) * (3600 : Int32))]) (m' := (f, l)) rfl rfl (fl_bo rfl) rfl ?_
  refine fl_Tq.ret rfl rfl rfl ?_
  show fl_Tq _ 102 25 [some (.inr (.inr (.inl (0, 0)))), some (.inl a), some (.inl b)] [.inl ((f (18 + 4 * A) 0) * (3600 : Int32)), .inl (0 : Int32), .inl b] (f, l) _
  refine fl_Tq.cal rfl rfl (fl_bo rfl) rfl ?_
  refine t2_within_q  ?_
  show fl_Tq _ 102 28 [some (.inr (.inr (.inl (0, 0)))), some (.inl a), some (.inl b)] [.inl (t2_within_v b (0 : Int32) ((f (18 + 4 * A) 0) * (3600 : Int32)))] (f, l) _
  by_cases h1 : (t2_within_v b (0 : Int32) ((f (18 + 4 * A) 0) * (3600 : Int32))).toInt = 0
  · refine fl_Tq.zf rfl (fl_bo rfl) (c1_ne_f h1) rfl ?_
    refine fl_Tq.cI (c := (0 : Int32)) rfl (by decide +kernel) (fl_bo rfl) ?_
    exact fl_Tq.ret rfl rfl rfl (k h1)
  · refine fl_Tq.zt rfl (fl_bo rfl) (c1_ne_t h1) rfl ?_
    refine fl_Tq.stp (pc' := 34) (lv' := [some (.inr (.inr (.inl (0, 0)))), some (.inl a), some (.inl b)]) (st' := [.inr (.inr (.inl (0, 0)))]) (m' := (f, l)) rfl rfl (fl_bo rfl) rfl ?_
    refine fl_Tq.stp (pc' := 37) (lv' := [some (.inr (.inr (.inl (0, 0)))), some (.inl a), some (.inl b)]) (st' := [.inr (.inr (.inl (73, 271)))]) (m' := (f, l)) rfl rfl (fl_bo rfl) rfl ?_
    refine fl_Tq.stp (pc' := 38) (lv' := [some (.inr (.inr (.inl (0, 0)))), some (.inl a), some (.inl b)]) (st' := [.inr (.inr (.inl (0, 0))), .inr (.inr (.inl (73, 271)))]) (m' := (f, l)) rfl rfl (fl_bo rfl) rfl ?_
    refine fl_Tq.stp (pc' := 41) (lv' := [some (.inr (.inr (.inl (0, 0)))), some (.inl a), some (.inl b)]) (st' := [.inr (.inr (.inl (1, 1))), .inr (.inr (.inl (73, 271)))]) (m' := (f, l)) rfl rfl (fl_bo rfl) rfl ?_
    exact k1 h1
theorem x_charge_B {L : Nat} {xs : Nat → Int32} {f : t2_F} {l : t2_L} {Q : Option fl_V → fl_M → Prop} {a b : Int32} {A : Nat} (hA : a.toInt = (A : Int)) (hA1 : A < 16) (hcp : t2_cap (f (18 + 4 * A) 0)) (k : Q (some (.inl (1 : Int32))) (c0_putCharge_m f A b, l)) : fl_Tq (pw_P L xs) 102 44 [some (.inr (.inr (.inl (0, 0)))), some (.inl a), some (.inl b)] [] (f, l) Q := by
  refine fl_Tq.stp (pc' := 45) (lv' := [some (.inr (.inr (.inl (0, 0)))), some (.inl a), some (.inl b)]) (st' := [.inr (.inr (.inl (0, 0)))]) (m' := (f, l)) rfl rfl (fl_bo rfl) rfl ?_
  refine fl_Tq.stp (pc' := 48) (lv' := [some (.inr (.inr (.inl (0, 0)))), some (.inl a), some (.inl b)]) (st' := [.inr (.inr (.inl (1, 1)))]) (m' := (f, l)) rfl rfl (fl_bo rfl) rfl ?_
  refine fl_Tq.stp (pc' := 51) (lv' := [some (.inr (.inr (.inl (0, 0)))), some (.inl a), some (.inl b)]) (st' := [.inr (.inr (.inl (2, 2)))]) (m' := (f, l)) rfl rfl (fl_bo rfl) rfl ?_
  refine fl_Tq.stp (pc' := 52) (lv' := [some (.inr (.inr (.inl (0, 0)))), some (.inl a), some (.inl b)]) (st' := [.inl a, .inr (.inr (.inl (2, 2)))]) (m' := (f, l)) rfl rfl (fl_bo rfl) rfl ?_
  refine fl_Tq.qld (p := 2) (τ := 2) (n := 16) (t := 18) (b := 16) (d := 3) (k := A) rfl (fl_bo rfl) rfl hA hA1 ?_
  show fl_Tq _ 102 53 [some (.inr (.inr (.inl (0, 0)))), some (.inl a), some (.inl b)] [.inr (.inr (.inl (18, 18 + 4 * A)))] (f, l) _
  refine fl_Tq.stp (pc' := 54) (lv' := [some (.inr (.inr (.inl (0, 0)))), some (.inl a), some (.inl b)]) (st' := [.inl b, .inr (.inr (.inl (18, 18 + 4 * A)))]) (m' := (f, l)) rfl rfl (fl_oks_ok ⟨(t2_kc0 hA1), True.intro⟩) rfl ?_
  refine fl_Tq.cal rfl rfl (fl_oks_ok ⟨True.intro, (t2_kc0 hA1), True.intro⟩) rfl ?_
  refine c0_putCharge_q hA1 hcp ?_
  show fl_Tq _ 102 57 [some (.inr (.inr (.inl (0, 0)))), some (.inl a), some (.inl b)] [] (c0_putCharge_m f A b, l) _
  refine fl_Tq.cI (c := (1 : Int32)) rfl (by decide +kernel) (fl_bo rfl) ?_
  exact fl_Tq.ret rfl rfl rfl k
noncomputable def x_cell_A_j9_0 (a b c : Int32) : Int32 := if (t2_within_v a (100 : Int32) (9999 : Int32)).toInt = 0 then (0 : Int32) else (if (t2_within_v b (0 : Int32) (1000 : Int32)).toInt = 0 then (0 : Int32) else (if (t2_within_v c (0 : Int32) (99 : Int32)).toInt = 0 then (0 : Int32) else (1 : Int32)))
theorem x_cell_A {L : Nat} {xs : Nat → Int32} {f : t2_F} {l : t2_L} {Q : Option fl_V → fl_M → Prop} {a b c : Int32}  (k : ((x_cell_A_j9_0 a b c).toInt = 0) → Q (some (.inl (-1 : Int32))) (f, l)) (k1 : (¬ ((x_cell_A_j9_0 a b c).toInt = 0)) → ((f 1 5).toInt < (16 : Int32).toInt) → fl_Tq (pw_P L xs) 101 67 [some (.inr (.inr (.inl (0, 0)))), some (.inl a), some (.inl b), some (.inl c), some (.inl (x_cell_A_j9_0 a b c))] [.inr (.inr (.inl (1, 1))), .inr (.inr (.inl (73, 271)))] (f, l) Q) (k2 : (¬ ((x_cell_A_j9_0 a b c).toInt = 0)) → (¬ ((f 1 5).toInt < (16 : Int32).toInt)) → Q (some (.inl (-1 : Int32))) (f, l)) : fl_Tq (pw_P L xs) 101 0 [some (.inr (.inr (.inl (0, 0)))), some (.inl a), some (.inl b), some (.inl c), none] [] (f, l) Q := by
  refine fl_Tq.stp (pc' := 1) (lv' := [some (.inr (.inr (.inl (0, 0)))), some (.inl a), some (.inl b), some (.inl c), none]) (st' := [.inl a]) (m' := (f, l)) rfl rfl (fl_bo rfl) rfl ?_
  refine fl_Tq.cB (c := (100 : Int32)) rfl (by decide +kernel) (fl_bo rfl) ?_
  refine fl_Tq.cS (c := (9999 : Int32)) rfl (by decide +kernel) (fl_bo rfl) ?_
  refine fl_Tq.cal rfl rfl (fl_bo rfl) rfl ?_
  refine t2_within_q  ?_
  show fl_Tq _ 101 9 [some (.inr (.inr (.inl (0, 0)))), some (.inl a), some (.inl b), some (.inl c), none] [.inl (t2_within_v a (100 : Int32) (9999 : Int32))] (f, l) _
  have hj179 : fl_Tq (pw_P L xs) 101 38 [some (.inr (.inr (.inl (0, 0)))), some (.inl a), some (.inl b), some (.inl c), none] [.inl (x_cell_A_j9_0 a b c)] (f, l) Q → fl_Tq (pw_P L xs) 101 9 [some (.inr (.inr (.inl (0, 0)))), some (.inl a), some (.inl b), some (.inl c), none] [.inl (t2_within_v a (100 : Int32) (9999 : Int32))] (f, l) Q := by
    intro hJ
    by_cases h1 : (t2_within_v a (100 : Int32) (9999 : Int32)).toInt = 0
    · refine fl_Tq.zt rfl (fl_bo rfl) (c1_eq_t h1) rfl ?_
      refine fl_Tq.cI (c := (0 : Int32)) rfl (by decide +kernel) (fl_bo rfl) ?_
      have e0 : (x_cell_A_j9_0 a b c) = (0 : Int32) := by simp only [x_cell_A_j9_0, if_pos h1]
      rw [e0] at hJ
      exact hJ
    · refine fl_Tq.zf rfl (fl_bo rfl) (c1_eq_f h1) rfl ?_
      refine fl_Tq.stp (pc' := 13) (lv' := [some (.inr (.inr (.inl (0, 0)))), some (.inl a), some (.inl b), some (.inl c), none]) (st' := [.inl b]) (m' := (f, l)) rfl rfl (fl_bo rfl) rfl ?_
      refine fl_Tq.cI (c := (0 : Int32)) rfl (by decide +kernel) (fl_bo rfl) ?_
      refine fl_Tq.cS (c := (1000 : Int32)) rfl (by decide +kernel) (fl_bo rfl) ?_
      refine fl_Tq.cal rfl rfl (fl_bo rfl) rfl ?_
      refine t2_within_q  ?_
      show fl_Tq _ 101 20 [some (.inr (.inr (.inl (0, 0)))), some (.inl a), some (.inl b), some (.inl c), none] [.inl (t2_within_v b (0 : Int32) (1000 : Int32))] (f, l) _
      by_cases h2 : (t2_within_v b (0 : Int32) (1000 : Int32)).toInt = 0
      · refine fl_Tq.zt rfl (fl_bo rfl) (c1_eq_t h2) rfl ?_
        refine fl_Tq.cI (c := (0 : Int32)) rfl (by decide +kernel) (fl_bo rfl) ?_
        have e0 : (x_cell_A_j9_0 a b c) = (0 : Int32) := by simp only [x_cell_A_j9_0, if_neg h1, if_pos h2]
        rw [e0] at hJ
        exact hJ
      · refine fl_Tq.zf rfl (fl_bo rfl) (c1_eq_f h2) rfl ?_
        refine fl_Tq.stp (pc' := 24) (lv' := [some (.inr (.inr (.inl (0, 0)))), some (.inl a), some (.inl b), some (.inl c), none]) (st' := [.inl c]) (m' := (f, l)) rfl rfl (fl_bo rfl) rfl ?_
        refine fl_Tq.cI (c := (0 : Int32)) rfl (by decide +kernel) (fl_bo rfl) ?_
        refine fl_Tq.cB (c := (99 : Int32)) rfl (by decide +kernel) (fl_bo rfl) ?_
        refine fl_Tq.cal rfl rfl (fl_bo rfl) rfl ?_
        refine t2_within_q  ?_
        show fl_Tq _ 101 30 [some (.inr (.inr (.inl (0, 0)))), some (.inl a), some (.inl b), some (.inl c), none] [.inl (t2_within_v c (0 : Int32) (99 : Int32))] (f, l) _
        by_cases h3 : (t2_within_v c (0 : Int32) (99 : Int32)).toInt = 0
        · refine fl_Tq.zt rfl (fl_bo rfl) (c1_eq_t h3) rfl ?_
          refine fl_Tq.cI (c := (0 : Int32)) rfl (by decide +kernel) (fl_bo rfl) ?_
          have e0 : (x_cell_A_j9_0 a b c) = (0 : Int32) := by simp only [x_cell_A_j9_0, if_neg h1, if_neg h2, if_pos h3]
          rw [e0] at hJ
          exact hJ
        · refine fl_Tq.zf rfl (fl_bo rfl) (c1_eq_f h3) rfl ?_
          refine fl_Tq.cI (c := (1 : Int32)) rfl (by decide +kernel) (fl_bo rfl) ?_
          refine fl_Tq.stp (pc' := 38) (lv' := [some (.inr (.inr (.inl (0, 0)))), some (.inl a), some (.inl b), some (.inl c), none]) (st' := [.inl (1 : Int32)]) (m' := (f, l)) rfl rfl (fl_bo rfl) rfl ?_
          have e0 : (x_cell_A_j9_0 a b c) = (1 : Int32) := by simp only [x_cell_A_j9_0, if_neg h1, if_neg h2, if_neg h3]
          rw [e0] at hJ
          exact hJ
  refine hj179 ?_
  show fl_Tq _ 101 38 [some (.inr (.inr (.inl (0, 0)))), some (.inl a), some (.inl b), some (.inl c), none] [.inl (x_cell_A_j9_0 a b c)] (f, l) _
  refine fl_Tq.stp (pc' := 40) (lv' := [some (.inr (.inr (.inl (0, 0)))), some (.inl a), some (.inl b), some (.inl c), some (.inl (x_cell_A_j9_0 a b c))]) (st' := []) (m' := (f, l)) rfl rfl (fl_bo rfl) rfl ?_
  refine fl_Tq.stp (pc' := 42) (lv' := [some (.inr (.inr (.inl (0, 0)))), some (.inl a), some (.inl b), some (.inl c), some (.inl (x_cell_A_j9_0 a b c))]) (st' := [.inl (x_cell_A_j9_0 a b c)]) (m' := (f, l)) rfl rfl (fl_bo rfl) rfl ?_
  by_cases h4 : (x_cell_A_j9_0 a b c).toInt = 0
  · refine fl_Tq.zt rfl (fl_bo rfl) (c1_eq_t h4) rfl ?_
    refine fl_Tq.cI (c := (-1 : Int32)) rfl (by decide +kernel) (fl_bo rfl) ?_
    exact fl_Tq.ret rfl rfl rfl (k h4)
  · refine fl_Tq.zf rfl (fl_bo rfl) (c1_eq_f h4) rfl ?_
    refine fl_Tq.stp (pc' := 46) (lv' := [some (.inr (.inr (.inl (0, 0)))), some (.inl a), some (.inl b), some (.inl c), some (.inl (x_cell_A_j9_0 a b c))]) (st' := [.inr (.inr (.inl (0, 0)))]) (m' := (f, l)) rfl rfl (fl_bo rfl) rfl ?_
    refine fl_Tq.stp (pc' := 49) (lv' := [some (.inr (.inr (.inl (0, 0)))), some (.inl a), some (.inl b), some (.inl c), some (.inl (x_cell_A_j9_0 a b c))]) (st' := [.inr (.inr (.inl (1, 1)))]) (m' := (f, l)) rfl rfl (fl_bo rfl) rfl ?_
    refine fl_Tq.gfV (k := 5) (v := f 1 5) rfl (fl_bo rfl) rfl rfl ?_
    refine fl_Tq.cB (c := (16 : Int32)) rfl (by decide +kernel) (fl_bo rfl) ?_
    by_cases h5 : (f 1 5).toInt < (16 : Int32).toInt
    · refine fl_Tq.jt rfl (fl_bo rfl) (c2_lt_t h5) rfl ?_
      refine fl_Tq.stp (pc' := 60) (lv' := [some (.inr (.inr (.inl (0, 0)))), some (.inl a), some (.inl b), some (.inl c), some (.inl (x_cell_A_j9_0 a b c))]) (st' := [.inr (.inr (.inl (0, 0)))]) (m' := (f, l)) rfl rfl (fl_bo rfl) rfl ?_
      refine fl_Tq.stp (pc' := 63) (lv' := [some (.inr (.inr (.inl (0, 0)))), some (.inl a), some (.inl b), some (.inl c), some (.inl (x_cell_A_j9_0 a b c))]) (st' := [.inr (.inr (.inl (73, 271)))]) (m' := (f, l)) rfl rfl (fl_bo rfl) rfl ?_
      refine fl_Tq.stp (pc' := 64) (lv' := [some (.inr (.inr (.inl (0, 0)))), some (.inl a), some (.inl b), some (.inl c), some (.inl (x_cell_A_j9_0 a b c))]) (st' := [.inr (.inr (.inl (0, 0))), .inr (.inr (.inl (73, 271)))]) (m' := (f, l)) rfl rfl (fl_bo rfl) rfl ?_
      refine fl_Tq.stp (pc' := 67) (lv' := [some (.inr (.inr (.inl (0, 0)))), some (.inl a), some (.inl b), some (.inl c), some (.inl (x_cell_A_j9_0 a b c))]) (st' := [.inr (.inr (.inl (1, 1))), .inr (.inr (.inl (73, 271)))]) (m' := (f, l)) rfl rfl (fl_bo rfl) rfl ?_
      exact k1 h4 h5
    · refine fl_Tq.jf rfl (fl_bo rfl) (c2_lt_f h5) rfl ?_
      refine fl_Tq.cI (c := (-1 : Int32)) rfl (by decide +kernel) (fl_bo rfl) ?_
      exact fl_Tq.ret rfl rfl rfl (k2 h4 h5)
theorem x_cell_B {L : Nat} {xs : Nat → Int32} {f : t2_F} {l : t2_L} {Q : Option fl_V → fl_M → Prop} {a b c : Int32}  (k : fl_Tq (pw_P L xs) 101 77 [some (.inr (.inr (.inl (0, 0)))), some (.inl a), some (.inl b), some (.inl c), none] [.inl c, .inl b, .inl a, .inr (.inr (.inl (1, 1)))] (f, l) Q) : fl_Tq (pw_P L xs) 101 70 [some (.inr (.inr (.inl (0, 0)))), some (.inl a), some (.inl b), some (.inl c), none] [] (f, l) Q := by
  refine fl_Tq.stp (pc' := 71) (lv' := [some (.inr (.inr (.inl (0, 0)))), some (.inl a), some (.inl b), some (.inl c), none]) (st' := [.inr (.inr (.inl (0, 0)))]) (m' := (f, l)) rfl rfl (fl_bo rfl) rfl ?_
  refine fl_Tq.stp (pc' := 74) (lv' := [some (.inr (.inr (.inl (0, 0)))), some (.inl a), some (.inl b), some (.inl c), none]) (st' := [.inr (.inr (.inl (1, 1)))]) (m' := (f, l)) rfl rfl (fl_bo rfl) rfl ?_
  refine fl_Tq.stp (pc' := 75) (lv' := [some (.inr (.inr (.inl (0, 0)))), some (.inl a), some (.inl b), some (.inl c), none]) (st' := [.inl a, .inr (.inr (.inl (1, 1)))]) (m' := (f, l)) rfl rfl (fl_bo rfl) rfl ?_
  refine fl_Tq.stp (pc' := 76) (lv' := [some (.inr (.inr (.inl (0, 0)))), some (.inl a), some (.inl b), some (.inl c), none]) (st' := [.inl b, .inl a, .inr (.inr (.inl (1, 1)))]) (m' := (f, l)) rfl rfl (fl_bo rfl) rfl ?_
  refine fl_Tq.stp (pc' := 77) (lv' := [some (.inr (.inr (.inl (0, 0)))), some (.inl a), some (.inl b), some (.inl c), none]) (st' := [.inl c, .inl b, .inl a, .inr (.inr (.inl (1, 1)))]) (m' := (f, l)) rfl rfl (fl_bo rfl) rfl ?_
  exact k
theorem y_hear_A {L : Nat} {xs : Nat → Int32} {f : t2_F} {l : t2_L} {Q : Option fl_V → fl_M → Prop}   (k : fl_Tq (pw_P L xs) 255 1 [some (.inr (.inr (.inl (76, 277)))), none] [.inr (.inr (.inl (76, 277)))] (f, l) Q) : fl_Tq (pw_P L xs) 255 0 [some (.inr (.inr (.inl (76, 277)))), none] [] (f, l) Q := by
  refine fl_Tq.stp (pc' := 1) (lv' := [some (.inr (.inr (.inl (76, 277)))), none]) (st' := [.inr (.inr (.inl (76, 277)))]) (m' := (f, l)) rfl rfl (fl_bo rfl) rfl ?_
  exact k
theorem y_hear_B {L : Nat} {xs : Nat → Int32} {f : t2_F} {l : t2_L} {Q : Option fl_V → fl_M → Prop}   (k : Q (some (.inl (f 280 22))) (fl_row f 280 (upd (f 280) 22 (0 : Int32)), l)) : fl_Tq (pw_P L xs) 255 4 [some (.inr (.inr (.inl (76, 277)))), none] [] (f, l) Q := by
  refine fl_Tq.stp (pc' := 5) (lv' := [some (.inr (.inr (.inl (76, 277)))), none]) (st' := [.inr (.inr (.inl (76, 277)))]) (m' := (f, l)) rfl rfl (fl_bo rfl) rfl ?_
  refine fl_Tq.stp (pc' := 8) (lv' := [some (.inr (.inr (.inl (76, 277)))), none]) (st' := [.inr (.inr (.inl (79, 280)))]) (m' := (f, l)) rfl rfl (fl_bo rfl) rfl ?_
  refine fl_Tq.cB (c := (22 : Int32)) rfl (by decide +kernel) (fl_bo rfl) ?_
  refine fl_Tq.ldV (p := 280) (τ := 79) (n := 29780) (z := (0, 0, 0)) (k := 22) (v := f 280 22) rfl (fl_bo rfl) rfl (by decide +kernel) (by decide) rfl ?_
  refine fl_Tq.stp (pc' := 12) (lv' := [some (.inr (.inr (.inl (76, 277)))), some (.inl (f 280 22))]) (st' := []) (m' := (f, l)) rfl rfl (fl_bo rfl) rfl ?_
  refine fl_Tq.stp (pc' := 13) (lv' := [some (.inr (.inr (.inl (76, 277)))), some (.inl (f 280 22))]) (st' := [.inr (.inr (.inl (76, 277)))]) (m' := (f, l)) rfl rfl (fl_bo rfl) rfl ?_
  refine fl_Tq.stp (pc' := 16) (lv' := [some (.inr (.inr (.inl (76, 277)))), some (.inl (f 280 22))]) (st' := [.inr (.inr (.inl (79, 280)))]) (m' := (f, l)) rfl rfl (fl_bo rfl) rfl ?_
  refine fl_Tq.cB (c := (22 : Int32)) rfl (by decide +kernel) (fl_bo rfl) ?_
  refine fl_Tq.cI (c := (0 : Int32)) rfl (by decide +kernel) (fl_bo rfl) ?_
  refine fl_Tq.svV (p := 280) (τ := 79) (n := 29780) (z := (0, 0, 0)) (k := 22) (m' := (fl_row f 280 (upd (f 280) 22 (0 : Int32)), l)) rfl (fl_bo rfl) rfl (by decide +kernel) (by decide) (t2_upn rfl) ?_
  refine fl_Tq.stp (pc' := 21) (lv' := [some (.inr (.inr (.inl (76, 277)))), some (.inl (f 280 22))]) (st' := [.inl (f 280 22)]) (m' := (fl_row f 280 (upd (f 280) 22 (0 : Int32)), l)) rfl rfl (fl_bo rfl) rfl ?_
  exact fl_Tq.ret rfl rfl rfl k
theorem y_close_A {L : Nat} {xs : Nat → Int32} {f : t2_F} {l : t2_L} {Q : Option fl_V → fl_M → Prop}   (k : ((f 280 3).toInt = 0) → ((f 280 6).toInt = 0) → ((f 280 2).toInt = 0) → Q (some (.inl (0 : Int32))) (f, l)) (k1 : ((f 280 3).toInt = 0) → ((f 280 6).toInt = 0) → (¬ ((f 280 2).toInt = 0)) → fl_Tq (pw_P L xs) 251 31 [some (.inr (.inr (.inl (76, 277))))] [.inr (.inr (.inl (76, 277)))] (f, l) Q) (k2 : ((f 280 3).toInt = 0) → (¬ ((f 280 6).toInt = 0)) → Q (some (.inl (0 : Int32))) (f, l)) (k3 : (¬ ((f 280 3).toInt = 0)) → Q (some (.inl (0 : Int32))) (f, l)) : fl_Tq (pw_P L xs) 251 0 [some (.inr (.inr (.inl (76, 277))))] [] (f, l) Q := by
  refine fl_Tq.stp (pc' := 1) (lv' := [some (.inr (.inr (.inl (76, 277))))]) (st' := [.inr (.inr (.inl (76, 277)))]) (m' := (f, l)) rfl rfl (fl_bo rfl) rfl ?_
  refine fl_Tq.stp (pc' := 4) (lv' := [some (.inr (.inr (.inl (76, 277))))]) (st' := [.inr (.inr (.inl (79, 280)))]) (m' := (f, l)) rfl rfl (fl_bo rfl) rfl ?_
  refine fl_Tq.cI (c := (3 : Int32)) rfl (by decide +kernel) (fl_bo rfl) ?_
  refine fl_Tq.ldV (p := 280) (τ := 79) (n := 29780) (z := (0, 0, 0)) (k := 3) (v := f 280 3) rfl (fl_bo rfl) rfl (by decide +kernel) (by decide) rfl ?_
  by_cases h1 : (f 280 3).toInt = 0
  · refine fl_Tq.zf rfl (fl_bo rfl) (c1_ne_f h1) rfl ?_
    refine fl_Tq.stp (pc' := 10) (lv' := [some (.inr (.inr (.inl (76, 277))))]) (st' := [.inr (.inr (.inl (76, 277)))]) (m' := (f, l)) rfl rfl (fl_bo rfl) rfl ?_
    refine fl_Tq.stp (pc' := 13) (lv' := [some (.inr (.inr (.inl (76, 277))))]) (st' := [.inr (.inr (.inl (79, 280)))]) (m' := (f, l)) rfl rfl (fl_bo rfl) rfl ?_
    refine fl_Tq.cB (c := (6 : Int32)) rfl (by decide +kernel) (fl_bo rfl) ?_
    refine fl_Tq.ldV (p := 280) (τ := 79) (n := 29780) (z := (0, 0, 0)) (k := 6) (v := f 280 6) rfl (fl_bo rfl) rfl (by decide +kernel) (by decide) rfl ?_
    by_cases h2 : (f 280 6).toInt = 0
    · refine fl_Tq.zf rfl (fl_bo rfl) (c1_ne_f h2) rfl ?_
      refine fl_Tq.stp (pc' := 20) (lv' := [some (.inr (.inr (.inl (76, 277))))]) (st' := [.inr (.inr (.inl (76, 277)))]) (m' := (f, l)) rfl rfl (fl_bo rfl) rfl ?_
      refine fl_Tq.stp (pc' := 23) (lv' := [some (.inr (.inr (.inl (76, 277))))]) (st' := [.inr (.inr (.inl (79, 280)))]) (m' := (f, l)) rfl rfl (fl_bo rfl) rfl ?_
      refine fl_Tq.cI (c := (2 : Int32)) rfl (by decide +kernel) (fl_bo rfl) ?_
      refine fl_Tq.ldV (p := 280) (τ := 79) (n := 29780) (z := (0, 0, 0)) (k := 2) (v := f 280 2) rfl (fl_bo rfl) rfl (by decide +kernel) (by decide) rfl ?_
      by_cases h3 : (f 280 2).toInt = 0
      · refine fl_Tq.zf rfl (fl_bo rfl) (c1_ne_f h3) rfl ?_
        refine fl_Tq.cI (c := (0 : Int32)) rfl (by decide +kernel) (fl_bo rfl) ?_
        exact fl_Tq.ret rfl rfl rfl (k h1 h2 h3)
      · refine fl_Tq.zt rfl (fl_bo rfl) (c1_ne_t h3) rfl ?_
        refine fl_Tq.stp (pc' := 31) (lv' := [some (.inr (.inr (.inl (76, 277))))]) (st' := [.inr (.inr (.inl (76, 277)))]) (m' := (f, l)) rfl rfl (fl_bo rfl) rfl ?_
        exact k1 h1 h2 h3
    · refine fl_Tq.zt rfl (fl_bo rfl) (c1_ne_t h2) rfl ?_
      refine fl_Tq.cI (c := (0 : Int32)) rfl (by decide +kernel) (fl_bo rfl) ?_
      exact fl_Tq.ret rfl rfl rfl (k2 h1 h2)
  · refine fl_Tq.zt rfl (fl_bo rfl) (c1_ne_t h1) rfl ?_
    refine fl_Tq.cI (c := (0 : Int32)) rfl (by decide +kernel) (fl_bo rfl) ?_
    exact fl_Tq.ret rfl rfl rfl (k3 h1)
theorem y_close_B {L : Nat} {xs : Nat → Int32} {f : t2_F} {l : t2_L} {Q : Option fl_V → fl_M → Prop}   (k : Q (some (.inl (1 : Int32))) (fl_row f 280 (upd (f 280) 3 (1 : Int32)), l)) : fl_Tq (pw_P L xs) 251 34 [some (.inr (.inr (.inl (76, 277))))] [] (f, l) Q := by
  refine fl_Tq.stp (pc' := 35) (lv' := [some (.inr (.inr (.inl (76, 277))))]) (st' := [.inr (.inr (.inl (76, 277)))]) (m' := (f, l)) rfl rfl (fl_bo rfl) rfl ?_
  refine fl_Tq.stp (pc' := 38) (lv' := [some (.inr (.inr (.inl (76, 277))))]) (st' := [.inr (.inr (.inl (79, 280)))]) (m' := (f, l)) rfl rfl (fl_bo rfl) rfl ?_
  refine fl_Tq.cI (c := (3 : Int32)) rfl (by decide +kernel) (fl_bo rfl) ?_
  refine fl_Tq.cI (c := (1 : Int32)) rfl (by decide +kernel) (fl_bo rfl) ?_
  refine fl_Tq.svV (p := 280) (τ := 79) (n := 29780) (z := (0, 0, 0)) (k := 3) (m' := (fl_row f 280 (upd (f 280) 3 (1 : Int32)), l)) rfl (fl_bo rfl) rfl (by decide +kernel) (by decide) (t2_upn rfl) ?_
  refine fl_Tq.cI (c := (1 : Int32)) rfl (by decide +kernel) (fl_bo rfl) ?_
  exact fl_Tq.ret rfl rfl rfl k
theorem y_open_A {L : Nat} {xs : Nat → Int32} {f : t2_F} {l : t2_L} {Q : Option fl_V → fl_M → Prop}   (k : ((f 280 3).toInt = 0) → Q (some (.inl (0 : Int32))) (f, l)) (k1 : (¬ ((f 280 3).toInt = 0)) → fl_Tq (pw_P L xs) 252 12 [some (.inr (.inr (.inl (76, 277))))] [.inr (.inr (.inl (76, 277)))] (f, l) Q) : fl_Tq (pw_P L xs) 252 0 [some (.inr (.inr (.inl (76, 277))))] [] (f, l) Q := by
  refine fl_Tq.stp (pc' := 1) (lv' := [some (.inr (.inr (.inl (76, 277))))]) (st' := [.inr (.inr (.inl (76, 277)))]) (m' := (f, l)) rfl rfl (fl_bo rfl) rfl ?_
  refine fl_Tq.stp (pc' := 4) (lv' := [some (.inr (.inr (.inl (76, 277))))]) (st' := [.inr (.inr (.inl (79, 280)))]) (m' := (f, l)) rfl rfl (fl_bo rfl) rfl ?_
  refine fl_Tq.cI (c := (3 : Int32)) rfl (by decide +kernel) (fl_bo rfl) ?_
  refine fl_Tq.ldV (p := 280) (τ := 79) (n := 29780) (z := (0, 0, 0)) (k := 3) (v := f 280 3) rfl (fl_bo rfl) rfl (by decide +kernel) (by decide) rfl ?_
  by_cases h1 : (f 280 3).toInt = 0
  · refine fl_Tq.zf rfl (fl_bo rfl) (c1_ne_f h1) rfl ?_
    refine fl_Tq.cI (c := (0 : Int32)) rfl (by decide +kernel) (fl_bo rfl) ?_
    exact fl_Tq.ret rfl rfl rfl (k h1)
  · refine fl_Tq.zt rfl (fl_bo rfl) (c1_ne_t h1) rfl ?_
    refine fl_Tq.stp (pc' := 12) (lv' := [some (.inr (.inr (.inl (76, 277))))]) (st' := [.inr (.inr (.inl (76, 277)))]) (m' := (f, l)) rfl rfl (fl_bo rfl) rfl ?_
    exact k1 h1
theorem y_open_B {L : Nat} {xs : Nat → Int32} {f : t2_F} {l : t2_L} {Q : Option fl_V → fl_M → Prop}   (k : Q (some (.inl (1 : Int32))) (fl_row f 280 (upd (upd (f 280) 3 (0 : Int32)) 5 (0 : Int32)), l)) : fl_Tq (pw_P L xs) 252 15 [some (.inr (.inr (.inl (76, 277))))] [] (f, l) Q := by
  refine fl_Tq.stp (pc' := 16) (lv' := [some (.inr (.inr (.inl (76, 277))))]) (st' := [.inr (.inr (.inl (76, 277)))]) (m' := (f, l)) rfl rfl (fl_bo rfl) rfl ?_
  refine fl_Tq.stp (pc' := 19) (lv' := [some (.inr (.inr (.inl (76, 277))))]) (st' := [.inr (.inr (.inl (79, 280)))]) (m' := (f, l)) rfl rfl (fl_bo rfl) rfl ?_
  refine fl_Tq.cI (c := (3 : Int32)) rfl (by decide +kernel) (fl_bo rfl) ?_
  refine fl_Tq.cI (c := (0 : Int32)) rfl (by decide +kernel) (fl_bo rfl) ?_
  refine fl_Tq.svV (p := 280) (τ := 79) (n := 29780) (z := (0, 0, 0)) (k := 3) (m' := (fl_row f 280 (upd (f 280) 3 (0 : Int32)), l)) rfl (fl_bo rfl) rfl (by decide +kernel) (by decide) (t2_upn rfl) ?_
  refine fl_Tq.stp (pc' := 23) (lv' := [some (.inr (.inr (.inl (76, 277))))]) (st' := [.inr (.inr (.inl (76, 277)))]) (m' := (fl_row f 280 (upd (f 280) 3 (0 : Int32)), l)) rfl rfl (fl_bo rfl) rfl ?_
  refine fl_Tq.stp (pc' := 26) (lv' := [some (.inr (.inr (.inl (76, 277))))]) (st' := [.inr (.inr (.inl (79, 280)))]) (m' := (fl_row f 280 (upd (f 280) 3 (0 : Int32)), l)) rfl rfl (fl_bo rfl) rfl ?_
  refine fl_Tq.cI (c := (5 : Int32)) rfl (by decide +kernel) (fl_bo rfl) ?_
  refine fl_Tq.cI (c := (0 : Int32)) rfl (by decide +kernel) (fl_bo rfl) ?_
  refine fl_Tq.svV (p := 280) (τ := 79) (n := 29780) (z := (0, 0, 0)) (k := 5) (m' := (fl_row f 280 (upd (upd (f 280) 3 (0 : Int32)) 5 (0 : Int32)), l)) rfl (fl_bo rfl) rfl (by decide +kernel) (by decide) (t2_upr) ?_
  refine fl_Tq.cI (c := (1 : Int32)) rfl (by decide +kernel) (fl_bo rfl) ?_
  exact fl_Tq.ret rfl rfl rfl k
theorem y_reset_A0 {L : Nat} {xs : Nat → Int32} {f : t2_F} {l : t2_L} {Q : Option fl_V → fl_M → Prop} {a : Int32}  (k : ((r_isIn_v a (0 : Int32) (10 : Int32)).toInt = 0) → Q (some (.inl (0 : Int32))) (f, l)) (k1 : (¬ ((r_isIn_v a (0 : Int32) (10 : Int32)).toInt = 0)) → ((r_has_v (f 280 6) a).toInt = 0) → Q (some (.inl (0 : Int32))) (f, l)) (k2 : (¬ ((r_isIn_v a (0 : Int32) (10 : Int32)).toInt = 0)) → (¬ ((r_has_v (f 280 6) a).toInt = 0)) → fl_Tq (pw_P L xs) 253 24 [some (.inr (.inr (.inl (76, 277)))), some (.inl a)] [] (f, l) Q) : fl_Tq (pw_P L xs) 253 0 [some (.inr (.inr (.inl (76, 277)))), some (.inl a)] [] (f, l) Q := by
  refine fl_Tq.stp (pc' := 1) (lv' := [some (.inr (.inr (.inl (76, 277)))), some (.inl a)]) (st' := [.inl a]) (m' := (f, l)) rfl rfl (fl_bo rfl) rfl ?_
  refine fl_Tq.cI (c := (0 : Int32)) rfl (by decide +kernel) (fl_bo rfl) ?_
  refine fl_Tq.cB (c := (10 : Int32)) rfl (by decide +kernel) (fl_bo rfl) ?_
  refine fl_Tq.cal rfl rfl (fl_bo rfl) rfl ?_
  refine r_isIn_q  ?_
  show fl_Tq _ 253 7 [some (.inr (.inr (.inl (76, 277)))), some (.inl a)] [.inl (r_isIn_v a (0 : Int32) (10 : Int32))] (f, l) _
  by_cases h1 : (r_isIn_v a (0 : Int32) (10 : Int32)).toInt = 0
  · refine fl_Tq.zt rfl (fl_bo rfl) (c1_eq_t h1) rfl ?_
    refine fl_Tq.cI (c := (0 : Int32)) rfl (by decide +kernel) (fl_bo rfl) ?_
    exact fl_Tq.ret rfl rfl rfl (k h1)
  · refine fl_Tq.zf rfl (fl_bo rfl) (c1_eq_f h1) rfl ?_
    refine fl_Tq.stp (pc' := 11) (lv' := [some (.inr (.inr (.inl (76, 277)))), some (.inl a)]) (st' := [.inr (.inr (.inl (76, 277)))]) (m' := (f, l)) rfl rfl (fl_bo rfl) rfl ?_
    refine fl_Tq.stp (pc' := 14) (lv' := [some (.inr (.inr (.inl (76, 277)))), some (.inl a)]) (st' := [.inr (.inr (.inl (79, 280)))]) (m' := (f, l)) rfl rfl (fl_bo rfl) rfl ?_
    refine fl_Tq.cB (c := (6 : Int32)) rfl (by decide +kernel) (fl_bo rfl) ?_
    refine fl_Tq.ldV (p := 280) (τ := 79) (n := 29780) (z := (0, 0, 0)) (k := 6) (v := f 280 6) rfl (fl_bo rfl) rfl (by decide +kernel) (by decide) rfl ?_
    refine fl_Tq.stp (pc' := 18) (lv' := [some (.inr (.inr (.inl (76, 277)))), some (.inl a)]) (st' := [.inl a, .inl (f 280 6)]) (m' := (f, l)) rfl rfl (fl_bo rfl) rfl ?_
    refine fl_Tq.cal rfl rfl (fl_bo rfl) rfl ?_
    refine r_has_q  ?_
    show fl_Tq _ 253 21 [some (.inr (.inr (.inl (76, 277)))), some (.inl a)] [.inl (r_has_v (f 280 6) a)] (f, l) _
    by_cases h2 : (r_has_v (f 280 6) a).toInt = 0
    · refine fl_Tq.zt rfl (fl_bo rfl) (c1_eq_t h2) rfl ?_
      refine fl_Tq.cI (c := (0 : Int32)) rfl (by decide +kernel) (fl_bo rfl) ?_
      exact fl_Tq.ret rfl rfl rfl (k1 h1 h2)
    · refine fl_Tq.zf rfl (fl_bo rfl) (c1_eq_f h2) rfl ?_
      exact k2 h1 h2
theorem y_reset_A1 {L : Nat} {xs : Nat → Int32} {f : t2_F} {l : t2_L} {Q : Option fl_V → fl_M → Prop} {a : Int32} {A : Nat} (hA : a.toInt = (A : Int)) (hA1 : A < 11) (k : ((f 280 3).toInt = 0) → (((f 280 7) - (f 280 (23 + A))).toInt < (f 280 55).toInt) → Q (some (.inl (0 : Int32))) (f, l)) (k1 : ((f 280 3).toInt = 0) → (¬ (((f 280 7) - (f 280 (23 + A))).toInt < (f 280 55).toInt)) → Q (some (.inl (1 : Int32))) (f, l)) (k2 : (¬ ((f 280 3).toInt = 0)) → Q (some (.inl (0 : Int32))) (f, l)) : fl_Tq (pw_P L xs) 253 24 [some (.inr (.inr (.inl (76, 277)))), some (.inl a)] [] (f, l) Q := by
  refine fl_Tq.stp (pc' := 25) (lv' := [some (.inr (.inr (.inl (76, 277)))), some (.inl a)]) (st' := [.inr (.inr (.inl (76, 277)))]) (m' := (f, l)) rfl rfl (fl_bo rfl) rfl ?_
  refine fl_Tq.stp (pc' := 28) (lv' := [some (.inr (.inr (.inl (76, 277)))), some (.inl a)]) (st' := [.inr (.inr (.inl (79, 280)))]) (m' := (f, l)) rfl rfl (fl_bo rfl) rfl ?_
  refine fl_Tq.cI (c := (3 : Int32)) rfl (by decide +kernel) (fl_bo rfl) ?_
  refine fl_Tq.ldV (p := 280) (τ := 79) (n := 29780) (z := (0, 0, 0)) (k := 3) (v := f 280 3) rfl (fl_bo rfl) rfl (by decide +kernel) (by decide) rfl ?_
  by_cases h1 : (f 280 3).toInt = 0
  · refine fl_Tq.zf rfl (fl_bo rfl) (c1_ne_f h1) rfl ?_
    refine fl_Tq.stp (pc' := 34) (lv' := [some (.inr (.inr (.inl (76, 277)))), some (.inl a)]) (st' := [.inr (.inr (.inl (76, 277)))]) (m' := (f, l)) rfl rfl (fl_bo rfl) rfl ?_
    refine fl_Tq.stp (pc' := 37) (lv' := [some (.inr (.inr (.inl (76, 277)))), some (.inl a)]) (st' := [.inr (.inr (.inl (79, 280)))]) (m' := (f, l)) rfl rfl (fl_bo rfl) rfl ?_
    refine fl_Tq.cB (c := (7 : Int32)) rfl (by decide +kernel) (fl_bo rfl) ?_
    refine fl_Tq.ldV (p := 280) (τ := 79) (n := 29780) (z := (0, 0, 0)) (k := 7) (v := f 280 7) rfl (fl_bo rfl) rfl (by decide +kernel) (by decide) rfl ?_
    refine fl_Tq.stp (pc' := 41) (lv' := [some (.inr (.inr (.inl (76, 277)))), some (.inl a)]) (st' := [.inr (.inr (.inl (76, 277))), .inl (f 280 7)]) (m' := (f, l)) rfl rfl (fl_bo rfl) rfl ?_
    refine fl_Tq.stp (pc' := 44) (lv' := [some (.inr (.inr (.inl (76, 277)))), some (.inl a)]) (st' := [.inr (.inr (.inl (79, 280))), .inl (f 280 7)]) (m' := (f, l)) rfl rfl (fl_bo rfl) rfl ?_
    refine fl_Tq.cB (c := (23 : Int32)) rfl (by decide +kernel) (fl_bo rfl) ?_
    refine fl_Tq.stp (pc' := 47) (lv' := [some (.inr (.inr (.inl (76, 277)))), some (.inl a)]) (st' := [.inl a, .inl (23 : Int32), .inr (.inr (.inl (79, 280))), .inl (f 280 7)]) (m' := (f, l)) rfl rfl (fl_bo rfl) rfl ?_
    refine fl_Tq.stp (pc' := 48) (lv' := [some (.inr (.inr (.inl (76, 277)))), some (.inl a)]) (st' := [.inl ((23 : Int32) + a), .inr (.inr (.inl (79, 280))), .inl (f 280 7)]) (m' := (f, l)) rfl rfl (fl_bo rfl) rfl ?_
    refine fl_Tq.ldV (p := 280) (τ := 79) (n := 29780) (z := (0, 0, 0)) (k := 23 + A) (v := f 280 (23 + A)) rfl (fl_bo rfl) rfl (t2_ia (by decide +kernel) hA (by omega)) (by omega) rfl ?_
    refine fl_Tq.stp (pc' := 50) (lv' := [some (.inr (.inr (.inl (76, 277)))), some (.inl a)]) (st' := [.inl ((f 280 7) - (f 280 (23 + A)))]) (m' := (f, l)) rfl rfl (fl_bo rfl) rfl ?_
    refine fl_Tq.stp (pc' := 51) (lv' := [some (.inr (.inr (.inl (76, 277)))), some (.inl a)]) (st' := [.inr (.inr (.inl (76, 277))), .inl ((f 280 7) - (f 280 (23 + A)))]) (m' := (f, l)) rfl rfl (fl_bo rfl) rfl ?_
    refine fl_Tq.cB (c := (21 : Int32)) rfl (by decide +kernel) (fl_bo rfl) ?_
    refine fl_Tq.cal rfl rfl (fl_bo rfl) rfl ?_
    refine t2_its (W := 21) (v := f 280 55) (by decide +kernel) (by decide) rfl ?_
    show fl_Tq _ 253 56 [some (.inr (.inr (.inl (76, 277)))), some (.inl a)] [.inl (f 280 55), .inl ((f 280 7) - (f 280 (23 + A)))] (f, l) _
    by_cases h2 : ((f 280 7) - (f 280 (23 + A))).toInt < (f 280 55).toInt
    · refine fl_Tq.jt rfl (fl_bo rfl) (c2_lt_t h2) rfl ?_
      refine fl_Tq.cI (c := (0 : Int32)) rfl (by decide +kernel) (fl_bo rfl) ?_
      exact fl_Tq.ret rfl rfl rfl (k h1 h2)
    · refine fl_Tq.jf rfl (fl_bo rfl) (c2_lt_f h2) rfl ?_
      refine fl_Tq.cI (c := (1 : Int32)) rfl (by decide +kernel) (fl_bo rfl) ?_
      refine fl_Tq.stp (pc' := 64) (lv' := [some (.inr (.inr (.inl (76, 277)))), some (.inl a)]) (st' := [.inl (1 : Int32)]) (m' := (f, l)) rfl rfl (fl_bo rfl) rfl ?_
      exact fl_Tq.ret rfl rfl rfl (k1 h1 h2)
  · refine fl_Tq.zt rfl (fl_bo rfl) (c1_ne_t h1) rfl ?_
    refine fl_Tq.cI (c := (0 : Int32)) rfl (by decide +kernel) (fl_bo rfl) ?_
    exact fl_Tq.ret rfl rfl rfl (k2 h1)
theorem y_reset_A2 {L : Nat} {xs : Nat → Int32} {f : t2_F} {l : t2_L} {Q : Option fl_V → fl_M → Prop} {a z : Int32}  (k : (z.toInt = 0) → Q (some (.inl (0 : Int32))) (f, l)) (k1 : (¬ (z.toInt = 0)) → fl_Tq (pw_P L xs) 254 11 [some (.inr (.inr (.inl (76, 277)))), some (.inl a)] [.inr (.inr (.inl (76, 277)))] (f, l) Q) : fl_Tq (pw_P L xs) 254 5 [some (.inr (.inr (.inl (76, 277)))), some (.inl a)] [.inl z] (f, l) Q := by
  by_cases h1 : z.toInt = 0
  · refine fl_Tq.zf rfl (fl_bo rfl) (c1_ne_f h1) rfl ?_
    refine fl_Tq.cI (c := (0 : Int32)) rfl (by decide +kernel) (fl_bo rfl) ?_
    exact fl_Tq.ret rfl rfl rfl (k h1)
  · refine fl_Tq.zt rfl (fl_bo rfl) (c1_ne_t h1) rfl ?_
    refine fl_Tq.stp (pc' := 11) (lv' := [some (.inr (.inr (.inl (76, 277)))), some (.inl a)]) (st' := [.inr (.inr (.inl (76, 277)))]) (m' := (f, l)) rfl rfl (fl_bo rfl) rfl ?_
    exact k1 h1
theorem y_reset_B {L : Nat} {xs : Nat → Int32} {f : t2_F} {l : t2_L} {Q : Option fl_V → fl_M → Prop} {a : Int32}  (k : Q (some (.inl (1 : Int32))) (fl_row f 280 (upd (f 280) 6 ((f 280 6) &&& (((1 : Int32) <<< (a &&& 31)) ^^^ (-1 : Int32)))), l)) : fl_Tq (pw_P L xs) 254 14 [some (.inr (.inr (.inl (76, 277)))), some (.inl a)] [] (f, l) Q := by
  refine fl_Tq.stp (pc' := 15) (lv' := [some (.inr (.inr (.inl (76, 277)))), some (.inl a)]) (st' := [.inr (.inr (.inl (76, 277)))]) (m' := (f, l)) rfl rfl (fl_bo rfl) rfl ?_
  refine fl_Tq.stp (pc' := 18) (lv' := [some (.inr (.inr (.inl (76, 277)))), some (.inl a)]) (st' := [.inr (.inr (.inl (79, 280)))]) (m' := (f, l)) rfl rfl (fl_bo rfl) rfl ?_
  refine fl_Tq.cB (c := (6 : Int32)) rfl (by decide +kernel) (fl_bo rfl) ?_
  refine fl_Tq.stp (pc' := 21) (lv' := [some (.inr (.inr (.inl (76, 277)))), some (.inl a)]) (st' := [.inl (6 : Int32), .inr (.inr (.inl (79, 280))), .inl (6 : Int32), .inr (.inr (.inl (79, 280)))]) (m' := (f, l)) rfl rfl (fl_bo rfl) rfl ?_
  refine fl_Tq.ldV (p := 280) (τ := 79) (n := 29780) (z := (0, 0, 0)) (k := 6) (v := f 280 6) rfl (fl_bo rfl) rfl (by decide +kernel) (by decide) rfl ?_
  refine fl_Tq.cI (c := (1 : Int32)) rfl (by decide +kernel) (fl_bo rfl) ?_
  refine fl_Tq.stp (pc' := 24) (lv' := [some (.inr (.inr (.inl (76, 277)))), some (.inl a)]) (st' := [.inl a, .inl (1 : Int32), .inl (f 280 6), .inl (6 : Int32), .inr (.inr (.inl (79, 280)))]) (m' := (f, l)) rfl rfl (fl_bo rfl) rfl ?_
  refine fl_Tq.stp (pc' := 25) (lv' := [some (.inr (.inr (.inl (76, 277)))), some (.inl a)]) (st' := [.inl ((1 : Int32) <<< (a &&& 31)), .inl (f 280 6), .inl (6 : Int32), .inr (.inr (.inl (79, 280)))]) (m' := (f, l)) rfl rfl (fl_bo rfl) rfl ?_
  refine fl_Tq.cI (c := (-1 : Int32)) rfl (by decide +kernel) (fl_bo rfl) ?_
  refine fl_Tq.stp (pc' := 27) (lv' := [some (.inr (.inr (.inl (76, 277)))), some (.inl a)]) (st' := [.inl (((1 : Int32) <<< (a &&& 31)) ^^^ (-1 : Int32)), .inl (f 280 6), .inl (6 : Int32), .inr (.inr (.inl (79, 280)))]) (m' := (f, l)) rfl rfl (fl_bo rfl) rfl ?_
  refine fl_Tq.stp (pc' := 28) (lv' := [some (.inr (.inr (.inl (76, 277)))), some (.inl a)]) (st' := [.inl ((f 280 6) &&& (((1 : Int32) <<< (a &&& 31)) ^^^ (-1 : Int32))), .inl (6 : Int32), .inr (.inr (.inl (79, 280)))]) (m' := (f, l)) rfl rfl (fl_bo rfl) rfl ?_
  refine fl_Tq.svV (p := 280) (τ := 79) (n := 29780) (z := (0, 0, 0)) (k := 6) (m' := (fl_row f 280 (upd (f 280) 6 ((f 280 6) &&& (((1 : Int32) <<< (a &&& 31)) ^^^ (-1 : Int32)))), l)) rfl (fl_bo rfl) rfl (by decide +kernel) (by decide) (t2_upn rfl) ?_
  refine fl_Tq.cI (c := (1 : Int32)) rfl (by decide +kernel) (fl_bo rfl) ?_
  exact fl_Tq.ret rfl rfl rfl k
theorem y_price_A {L : Nat} {xs : Nat → Int32} {f : t2_F} {l : t2_L} {Q : Option fl_V → fl_M → Prop} {a b : Int32}  (k : ((r_isIn_v a (0 : Int32) (23 : Int32)).toInt = 0) → Q (some (.inl (0 : Int32))) (f, l)) (k1 : (¬ ((r_isIn_v a (0 : Int32) (23 : Int32)).toInt = 0)) → ((r_isIn_v b (0 : Int32) (999 : Int32)).toInt = 0) → Q (some (.inl (0 : Int32))) (f, l)) (k2 : (¬ ((r_isIn_v a (0 : Int32) (23 : Int32)).toInt = 0)) → (¬ ((r_isIn_v b (0 : Int32) (999 : Int32)).toInt = 0)) → fl_Tq (pw_P L xs) 256 24 [some (.inr (.inr (.inl (76, 277)))), some (.inl a), some (.inl b)] [.inr (.inr (.inl (76, 277)))] (f, l) Q) : fl_Tq (pw_P L xs) 256 0 [some (.inr (.inr (.inl (76, 277)))), some (.inl a), some (.inl b)] [] (f, l) Q := by
  refine fl_Tq.stp (pc' := 1) (lv' := [some (.inr (.inr (.inl (76, 277)))), some (.inl a), some (.inl b)]) (st' := [.inl a]) (m' := (f, l)) rfl rfl (fl_bo rfl) rfl ?_
  refine fl_Tq.cI (c := (0 : Int32)) rfl (by decide +kernel) (fl_bo rfl) ?_
  refine fl_Tq.cB (c := (23 : Int32)) rfl (by decide +kernel) (fl_bo rfl) ?_
  refine fl_Tq.cal rfl rfl (fl_bo rfl) rfl ?_
  refine r_isIn_q  ?_
  show fl_Tq _ 256 7 [some (.inr (.inr (.inl (76, 277)))), some (.inl a), some (.inl b)] [.inl (r_isIn_v a (0 : Int32) (23 : Int32))] (f, l) _
  by_cases h1 : (r_isIn_v a (0 : Int32) (23 : Int32)).toInt = 0
  · refine fl_Tq.zt rfl (fl_bo rfl) (c1_eq_t h1) rfl ?_
    refine fl_Tq.cI (c := (0 : Int32)) rfl (by decide +kernel) (fl_bo rfl) ?_
    exact fl_Tq.ret rfl rfl rfl (k h1)
  · refine fl_Tq.zf rfl (fl_bo rfl) (c1_eq_f h1) rfl ?_
    refine fl_Tq.stp (pc' := 11) (lv' := [some (.inr (.inr (.inl (76, 277)))), some (.inl a), some (.inl b)]) (st' := [.inl b]) (m' := (f, l)) rfl rfl (fl_bo rfl) rfl ?_
    refine fl_Tq.cI (c := (0 : Int32)) rfl (by decide +kernel) (fl_bo rfl) ?_
    refine fl_Tq.cS (c := (999 : Int32)) rfl (by decide +kernel) (fl_bo rfl) ?_
    refine fl_Tq.cal rfl rfl (fl_bo rfl) rfl ?_
    refine r_isIn_q  ?_
    show fl_Tq _ 256 18 [some (.inr (.inr (.inl (76, 277)))), some (.inl a), some (.inl b)] [.inl (r_isIn_v b (0 : Int32) (999 : Int32))] (f, l) _
    by_cases h2 : (r_isIn_v b (0 : Int32) (999 : Int32)).toInt = 0
    · refine fl_Tq.zf rfl (fl_bo rfl) (c1_ne_f h2) rfl ?_
      refine fl_Tq.cI (c := (0 : Int32)) rfl (by decide +kernel) (fl_bo rfl) ?_
      exact fl_Tq.ret rfl rfl rfl (k1 h1 h2)
    · refine fl_Tq.zt rfl (fl_bo rfl) (c1_ne_t h2) rfl ?_
      refine fl_Tq.stp (pc' := 24) (lv' := [some (.inr (.inr (.inl (76, 277)))), some (.inl a), some (.inl b)]) (st' := [.inr (.inr (.inl (76, 277)))]) (m' := (f, l)) rfl rfl (fl_bo rfl) rfl ?_
      exact k2 h1 h2
theorem y_price_B {L : Nat} {xs : Nat → Int32} {f : t2_F} {l : t2_L} {Q : Option fl_V → fl_M → Prop} {a b : Int32} {A : Nat} (hA : a.toInt = (A : Int)) (hA1 : A < 24) (k : Q (some (.inl (1 : Int32))) (fl_row f 280 (upd (f 280) (315 + A) b), l)) : fl_Tq (pw_P L xs) 256 27 [some (.inr (.inr (.inl (76, 277)))), some (.inl a), some (.inl b)] [] (f, l) Q := by
  refine fl_Tq.stp (pc' := 28) (lv' := [some (.inr (.inr (.inl (76, 277)))), some (.inl a), some (.inl b)]) (st' := [.inr (.inr (.inl (76, 277)))]) (m' := (f, l)) rfl rfl (fl_bo rfl) rfl ?_
  refine fl_Tq.stp (pc' := 31) (lv' := [some (.inr (.inr (.inl (76, 277)))), some (.inl a), some (.inl b)]) (st' := [.inr (.inr (.inl (79, 280)))]) (m' := (f, l)) rfl rfl (fl_bo rfl) rfl ?_
  refine fl_Tq.cS (c := (315 : Int32)) rfl (by decide +kernel) (fl_bo rfl) ?_
  refine fl_Tq.stp (pc' := 35) (lv' := [some (.inr (.inr (.inl (76, 277)))), some (.inl a), some (.inl b)]) (st' := [.inl a, .inl (315 : Int32), .inr (.inr (.inl (79, 280)))]) (m' := (f, l)) rfl rfl (fl_bo rfl) rfl ?_
  refine fl_Tq.stp (pc' := 36) (lv' := [some (.inr (.inr (.inl (76, 277)))), some (.inl a), some (.inl b)]) (st' := [.inl ((315 : Int32) + a), .inr (.inr (.inl (79, 280)))]) (m' := (f, l)) rfl rfl (fl_bo rfl) rfl ?_
  refine fl_Tq.stp (pc' := 37) (lv' := [some (.inr (.inr (.inl (76, 277)))), some (.inl a), some (.inl b)]) (st' := [.inl b, .inl ((315 : Int32) + a), .inr (.inr (.inl (79, 280)))]) (m' := (f, l)) rfl rfl (fl_bo rfl) rfl ?_
  refine fl_Tq.svV (p := 280) (τ := 79) (n := 29780) (z := (0, 0, 0)) (k := 315 + A) (m' := (fl_row f 280 (upd (f 280) (315 + A) b), l)) rfl (fl_bo rfl) rfl (t2_ia (by decide +kernel) hA (by omega)) (by omega) (t2_upn rfl) ?_
  refine fl_Tq.cI (c := (1 : Int32)) rfl (by decide +kernel) (fl_bo rfl) ?_
  exact fl_Tq.ret rfl rfl rfl k
theorem y_stuck_A {L : Nat} {xs : Nat → Int32} {f : t2_F} {l : t2_L} {Q : Option fl_V → fl_M → Prop} {a b : Int32}  (k : ((r_isIn_v a (0 : Int32) (2 : Int32)).toInt = 0) → Q (some (.inl (0 : Int32))) (f, l)) (k1 : (¬ ((r_isIn_v a (0 : Int32) (2 : Int32)).toInt = 0)) → ((r_isIn_v b (0 : Int32) (2 : Int32)).toInt = 0) → Q (some (.inl (0 : Int32))) (f, l)) (k2 : (¬ ((r_isIn_v a (0 : Int32) (2 : Int32)).toInt = 0)) → (¬ ((r_isIn_v b (0 : Int32) (2 : Int32)).toInt = 0)) → fl_Tq (pw_P L xs) 258 21 [some (.inr (.inr (.inl (76, 277)))), some (.inl a), some (.inl b)] [.inr (.inr (.inl (76, 277)))] (f, l) Q) : fl_Tq (pw_P L xs) 258 0 [some (.inr (.inr (.inl (76, 277)))), some (.inl a), some (.inl b)] [] (f, l) Q := by
  refine fl_Tq.stp (pc' := 1) (lv' := [some (.inr (.inr (.inl (76, 277)))), some (.inl a), some (.inl b)]) (st' := [.inl a]) (m' := (f, l)) rfl rfl (fl_bo rfl) rfl ?_
  refine fl_Tq.cI (c := (0 : Int32)) rfl (by decide +kernel) (fl_bo rfl) ?_
  refine fl_Tq.cI (c := (2 : Int32)) rfl (by decide +kernel) (fl_bo rfl) ?_
  refine fl_Tq.cal rfl rfl (fl_bo rfl) rfl ?_
  refine r_isIn_q  ?_
  show fl_Tq _ 258 6 [some (.inr (.inr (.inl (76, 277)))), some (.inl a), some (.inl b)] [.inl (r_isIn_v a (0 : Int32) (2 : Int32))] (f, l) _
  by_cases h1 : (r_isIn_v a (0 : Int32) (2 : Int32)).toInt = 0
  · refine fl_Tq.zt rfl (fl_bo rfl) (c1_eq_t h1) rfl ?_
    refine fl_Tq.cI (c := (0 : Int32)) rfl (by decide +kernel) (fl_bo rfl) ?_
    exact fl_Tq.ret rfl rfl rfl (k h1)
  · refine fl_Tq.zf rfl (fl_bo rfl) (c1_eq_f h1) rfl ?_
    refine fl_Tq.stp (pc' := 10) (lv' := [some (.inr (.inr (.inl (76, 277)))), some (.inl a), some (.inl b)]) (st' := [.inl b]) (m' := (f, l)) rfl rfl (fl_bo rfl) rfl ?_
    refine fl_Tq.cI (c := (0 : Int32)) rfl (by decide +kernel) (fl_bo rfl) ?_
    refine fl_Tq.cI (c := (2 : Int32)) rfl (by decide +kernel) (fl_bo rfl) ?_
    refine fl_Tq.cal rfl rfl (fl_bo rfl) rfl ?_
    refine r_isIn_q  ?_
    show fl_Tq _ 258 15 [some (.inr (.inr (.inl (76, 277)))), some (.inl a), some (.inl b)] [.inl (r_isIn_v b (0 : Int32) (2 : Int32))] (f, l) _
    by_cases h2 : (r_isIn_v b (0 : Int32) (2 : Int32)).toInt = 0
    · refine fl_Tq.zf rfl (fl_bo rfl) (c1_ne_f h2) rfl ?_
      refine fl_Tq.cI (c := (0 : Int32)) rfl (by decide +kernel) (fl_bo rfl) ?_
      exact fl_Tq.ret rfl rfl rfl (k1 h1 h2)
    · refine fl_Tq.zt rfl (fl_bo rfl) (c1_ne_t h2) rfl ?_
      refine fl_Tq.stp (pc' := 21) (lv' := [some (.inr (.inr (.inl (76, 277)))), some (.inl a), some (.inl b)]) (st' := [.inr (.inr (.inl (76, 277)))]) (m' := (f, l)) rfl rfl (fl_bo rfl) rfl ?_
      exact k2 h1 h2
theorem y_stuck_B {L : Nat} {xs : Nat → Int32} {f : t2_F} {l : t2_L} {Q : Option fl_V → fl_M → Prop} {a b : Int32} {A : Nat} (hA : a.toInt = (A : Int)) (hA1 : A < 3) (k : Q (some (.inl (1 : Int32))) (fl_row f 280 (upd (f 280) (64 + A) b), l)) : fl_Tq (pw_P L xs) 258 24 [some (.inr (.inr (.inl (76, 277)))), some (.inl a), some (.inl b)] [] (f, l) Q := by
  refine fl_Tq.stp (pc' := 25) (lv' := [some (.inr (.inr (.inl (76, 277)))), some (.inl a), some (.inl b)]) (st' := [.inr (.inr (.inl (76, 277)))]) (m' := (f, l)) rfl rfl (fl_bo rfl) rfl ?_
  refine fl_Tq.stp (pc' := 28) (lv' := [some (.inr (.inr (.inl (76, 277)))), some (.inl a), some (.inl b)]) (st' := [.inr (.inr (.inl (79, 280)))]) (m' := (f, l)) rfl rfl (fl_bo rfl) rfl ?_
  refine fl_Tq.cB (c := (64 : Int32)) rfl (by decide +kernel) (fl_bo rfl) ?_
  refine fl_Tq.stp (pc' := 31) (lv' := [some (.inr (.inr (.inl (76, 277)))), some (.inl a), some (.inl b)]) (st' := [.inl a, .inl (64 : Int32), .inr (.inr (.inl (79, 280)))]) (m' := (f, l)) rfl rfl (fl_bo rfl) rfl ?_
  refine fl_Tq.stp (pc' := 32) (lv' := [some (.inr (.inr (.inl (76, 277)))), some (.inl a), some (.inl b)]) (st' := [.inl ((64 : Int32) + a), .inr (.inr (.inl (79, 280)))]) (m' := (f, l)) rfl rfl (fl_bo rfl) rfl ?_
  refine fl_Tq.stp (pc' := 33) (lv' := [some (.inr (.inr (.inl (76, 277)))), some (.inl a), some (.inl b)]) (st' := [.inl b, .inl ((64 : Int32) + a), .inr (.inr (.inl (79, 280)))]) (m' := (f, l)) rfl rfl (fl_bo rfl) rfl ?_
  refine fl_Tq.svV (p := 280) (τ := 79) (n := 29780) (z := (0, 0, 0)) (k := 64 + A) (m' := (fl_row f 280 (upd (f 280) (64 + A) b), l)) rfl (fl_bo rfl) rfl (t2_ia (by decide +kernel) hA (by omega)) (by omega) (t2_upn rfl) ?_
  refine fl_Tq.cI (c := (1 : Int32)) rfl (by decide +kernel) (fl_bo rfl) ?_
  exact fl_Tq.ret rfl rfl rfl k
theorem y_set_A {L : Nat} {xs : Nat → Int32} {f : t2_F} {l : t2_L} {Q : Option fl_V → fl_M → Prop} {a b : Int32}  (k : fl_Tq (pw_P L xs) 247 3 [some (.inr (.inr (.inl (76, 277)))), some (.inl a), some (.inl b)] [.inl b, .inl a, .inr (.inr (.inl (76, 277)))] (f, l) Q) : fl_Tq (pw_P L xs) 247 0 [some (.inr (.inr (.inl (76, 277)))), some (.inl a), some (.inl b)] [] (f, l) Q := by
  refine fl_Tq.stp (pc' := 1) (lv' := [some (.inr (.inr (.inl (76, 277)))), some (.inl a), some (.inl b)]) (st' := [.inr (.inr (.inl (76, 277)))]) (m' := (f, l)) rfl rfl (fl_bo rfl) rfl ?_
  refine fl_Tq.stp (pc' := 2) (lv' := [some (.inr (.inr (.inl (76, 277)))), some (.inl a), some (.inl b)]) (st' := [.inl a, .inr (.inr (.inl (76, 277)))]) (m' := (f, l)) rfl rfl (fl_bo rfl) rfl ?_
  refine fl_Tq.stp (pc' := 3) (lv' := [some (.inr (.inr (.inl (76, 277)))), some (.inl a), some (.inl b)]) (st' := [.inl b, .inl a, .inr (.inr (.inl (76, 277)))]) (m' := (f, l)) rfl rfl (fl_bo rfl) rfl ?_
  exact k
theorem y_set_A2 {L : Nat} {xs : Nat → Int32} {f : t2_F} {l : t2_L} {Q : Option fl_V → fl_M → Prop} {a b z : Int32}  (k : (z.toInt = 0) → Q (some (.inl (0 : Int32))) (f, l)) (k1 : (¬ (z.toInt = 0)) → fl_Tq (pw_P L xs) 247 12 [some (.inr (.inr (.inl (76, 277)))), some (.inl a), some (.inl b)] [.inr (.inr (.inl (76, 277)))] (f, l) Q) : fl_Tq (pw_P L xs) 247 6 [some (.inr (.inr (.inl (76, 277)))), some (.inl a), some (.inl b)] [.inl z] (f, l) Q := by
  by_cases h1 : z.toInt = 0
  · refine fl_Tq.zf rfl (fl_bo rfl) (c1_ne_f h1) rfl ?_
    refine fl_Tq.cI (c := (0 : Int32)) rfl (by decide +kernel) (fl_bo rfl) ?_
    exact fl_Tq.ret rfl rfl rfl (k h1)
  · refine fl_Tq.zt rfl (fl_bo rfl) (c1_ne_t h1) rfl ?_
    refine fl_Tq.stp (pc' := 12) (lv' := [some (.inr (.inr (.inl (76, 277)))), some (.inl a), some (.inl b)]) (st' := [.inr (.inr (.inl (76, 277)))]) (m' := (f, l)) rfl rfl (fl_bo rfl) rfl ?_
    exact k1 h1
theorem y_set_B {L : Nat} {xs : Nat → Int32} {f : t2_F} {l : t2_L} {Q : Option fl_V → fl_M → Prop} {a b : Int32} {A : Nat} (hA : a.toInt = (A : Int)) (hA1 : A < 30) (k : Q (some (.inl (1 : Int32))) (fl_row f 280 (upd (f 280) (34 + A) b), l)) : fl_Tq (pw_P L xs) 247 15 [some (.inr (.inr (.inl (76, 277)))), some (.inl a), some (.inl b)] [] (f, l) Q := by
  refine fl_Tq.stp (pc' := 16) (lv' := [some (.inr (.inr (.inl (76, 277)))), some (.inl a), some (.inl b)]) (st' := [.inr (.inr (.inl (76, 277)))]) (m' := (f, l)) rfl rfl (fl_bo rfl) rfl ?_
  refine fl_Tq.stp (pc' := 19) (lv' := [some (.inr (.inr (.inl (76, 277)))), some (.inl a), some (.inl b)]) (st' := [.inr (.inr (.inl (79, 280)))]) (m' := (f, l)) rfl rfl (fl_bo rfl) rfl ?_
  refine fl_Tq.cB (c := (34 : Int32)) rfl (by decide +kernel) (fl_bo rfl) ?_
  refine fl_Tq.stp (pc' := 22) (lv' := [some (.inr (.inr (.inl (76, 277)))), some (.inl a), some (.inl b)]) (st' := [.inl a, .inl (34 : Int32), .inr (.inr (.inl (79, 280)))]) (m' := (f, l)) rfl rfl (fl_bo rfl) rfl ?_
  refine fl_Tq.stp (pc' := 23) (lv' := [some (.inr (.inr (.inl (76, 277)))), some (.inl a), some (.inl b)]) (st' := [.inl ((34 : Int32) + a), .inr (.inr (.inl (79, 280)))]) (m' := (f, l)) rfl rfl (fl_bo rfl) rfl ?_
  refine fl_Tq.stp (pc' := 24) (lv' := [some (.inr (.inr (.inl (76, 277)))), some (.inl a), some (.inl b)]) (st' := [.inl b, .inl ((34 : Int32) + a), .inr (.inr (.inl (79, 280)))]) (m' := (f, l)) rfl rfl (fl_bo rfl) rfl ?_
  refine fl_Tq.svV (p := 280) (τ := 79) (n := 29780) (z := (0, 0, 0)) (k := 34 + A) (m' := (fl_row f 280 (upd (f 280) (34 + A) b), l)) rfl (fl_bo rfl) rfl (t2_ia (by decide +kernel) hA (by omega)) (by omega) (t2_upn rfl) ?_
  refine fl_Tq.cI (c := (1 : Int32)) rfl (by decide +kernel) (fl_bo rfl) ?_
  exact fl_Tq.ret rfl rfl rfl k
theorem y_zone_A {L : Nat} {xs : Nat → Int32} {f : t2_F} {l : t2_L} {Q : Option fl_V → fl_M → Prop} {a b : Int32}  (k : ((r_isIn_v a (-400 : Int32) (1200 : Int32)).toInt = 0) → Q (some (.inl (-1 : Int32))) (f, l)) (k1 : (¬ ((r_isIn_v a (-400 : Int32) (1200 : Int32)).toInt = 0)) → ((r_isIn_v b (0 : Int32) (99999 : Int32)).toInt = 0) → Q (some (.inl (-1 : Int32))) (f, l)) (k2 : (¬ ((r_isIn_v a (-400 : Int32) (1200 : Int32)).toInt = 0)) → (¬ ((r_isIn_v b (0 : Int32) (99999 : Int32)).toInt = 0)) → ((f 280 17).toInt = (6 : Int32).toInt) → Q (some (.inl (-1 : Int32))) (f, l)) (k3 : (¬ ((r_isIn_v a (-400 : Int32) (1200 : Int32)).toInt = 0)) → (¬ ((r_isIn_v b (0 : Int32) (99999 : Int32)).toInt = 0)) → (¬ ((f 280 17).toInt = (6 : Int32).toInt)) → fl_Tq (pw_P L xs) 259 37 [some (.inr (.inr (.inl (76, 277)))), some (.inl a), some (.inl b)] [] (f, l) Q) : fl_Tq (pw_P L xs) 259 0 [some (.inr (.inr (.inl (76, 277)))), some (.inl a), some (.inl b)] [] (f, l) Q := by
  refine fl_Tq.stp (pc' := 1) (lv' := [some (.inr (.inr (.inl (76, 277)))), some (.inl a), some (.inl b)]) (st' := [.inl a]) (m' := (f, l)) rfl rfl (fl_bo rfl) rfl ?_
  refine fl_Tq.cS (c := (-400 : Int32)) rfl (by decide +kernel) (fl_bo rfl) ?_
  refine fl_Tq.cS (c := (1200 : Int32)) rfl (by decide +kernel) (fl_bo rfl) ?_
  refine fl_Tq.cal rfl rfl (fl_bo rfl) rfl ?_
  refine r_isIn_q  ?_
  show fl_Tq _ 259 10 [some (.inr (.inr (.inl (76, 277)))), some (.inl a), some (.inl b)] [.inl (r_isIn_v a (-400 : Int32) (1200 : Int32))] (f, l) _
  by_cases h1 : (r_isIn_v a (-400 : Int32) (1200 : Int32)).toInt = 0
  · refine fl_Tq.zt rfl (fl_bo rfl) (c1_eq_t h1) rfl ?_
    refine fl_Tq.cI (c := (-1 : Int32)) rfl (by decide +kernel) (fl_bo rfl) ?_
    exact fl_Tq.ret rfl rfl rfl (k h1)
  · refine fl_Tq.zf rfl (fl_bo rfl) (c1_eq_f h1) rfl ?_
    refine fl_Tq.stp (pc' := 14) (lv' := [some (.inr (.inr (.inl (76, 277)))), some (.inl a), some (.inl b)]) (st' := [.inl b]) (m' := (f, l)) rfl rfl (fl_bo rfl) rfl ?_
    refine fl_Tq.cI (c := (0 : Int32)) rfl (by decide +kernel) (fl_bo rfl) ?_
    refine fl_Tq.stp (pc' := 17) (lv' := [some (.inr (.inr (.inl (76, 277)))), some (.inl a), some (.inl b)]) (st' := [.inl (99999 : Int32), .inl (0 : Int32), .inl b]) (m' := (f, l)) rfl rfl (fl_bo rfl) rfl ?_
    refine fl_Tq.cal rfl rfl (fl_bo rfl) rfl ?_
    refine r_isIn_q  ?_
    show fl_Tq _ 259 20 [some (.inr (.inr (.inl (76, 277)))), some (.inl a), some (.inl b)] [.inl (r_isIn_v b (0 : Int32) (99999 : Int32))] (f, l) _
    by_cases h2 : (r_isIn_v b (0 : Int32) (99999 : Int32)).toInt = 0
    · refine fl_Tq.zt rfl (fl_bo rfl) (c1_eq_t h2) rfl ?_
      refine fl_Tq.cI (c := (-1 : Int32)) rfl (by decide +kernel) (fl_bo rfl) ?_
      exact fl_Tq.ret rfl rfl rfl (k1 h1 h2)
    · refine fl_Tq.zf rfl (fl_bo rfl) (c1_eq_f h2) rfl ?_
      refine fl_Tq.stp (pc' := 24) (lv' := [some (.inr (.inr (.inl (76, 277)))), some (.inl a), some (.inl b)]) (st' := [.inr (.inr (.inl (76, 277)))]) (m' := (f, l)) rfl rfl (fl_bo rfl) rfl ?_
      refine fl_Tq.stp (pc' := 27) (lv' := [some (.inr (.inr (.inl (76, 277)))), some (.inl a), some (.inl b)]) (st' := [.inr (.inr (.inl (79, 280)))]) (m' := (f, l)) rfl rfl (fl_bo rfl) rfl ?_
      refine fl_Tq.cB (c := (17 : Int32)) rfl (by decide +kernel) (fl_bo rfl) ?_
      refine fl_Tq.ldV (p := 280) (τ := 79) (n := 29780) (z := (0, 0, 0)) (k := 17) (v := f 280 17) rfl (fl_bo rfl) rfl (by decide +kernel) (by decide) rfl ?_
      refine fl_Tq.cB (c := (6 : Int32)) rfl (by decide +kernel) (fl_bo rfl) ?_
      by_cases h3 : (f 280 17).toInt = (6 : Int32).toInt
      · refine fl_Tq.jf rfl (fl_bo rfl) (c2_ne_f h3) rfl ?_
        refine fl_Tq.cI (c := (-1 : Int32)) rfl (by decide +kernel) (fl_bo rfl) ?_
        exact fl_Tq.ret rfl rfl rfl (k2 h1 h2 h3)
      · refine fl_Tq.jt rfl (fl_bo rfl) (c2_ne_t h3) rfl ?_
        exact k3 h1 h2 h3
theorem y_zone_A1 {L : Nat} {xs : Nat → Int32} {f : t2_F} {l : t2_L} {Q : Option fl_V → fl_M → Prop} {a b : Int32}  (k : (0 < (f 280 17).toInt) → fl_Tq (pw_P L xs) 259 47 [some (.inr (.inr (.inl (76, 277)))), some (.inl a), some (.inl b)] [] (f, l) Q) (k1 : (¬ (0 < (f 280 17).toInt)) → fl_Tq (pw_P L xs) 259 72 [some (.inr (.inr (.inl (76, 277)))), some (.inl a), some (.inl b)] [] (f, l) Q) : fl_Tq (pw_P L xs) 259 37 [some (.inr (.inr (.inl (76, 277)))), some (.inl a), some (.inl b)] [] (f, l) Q := by
  refine fl_Tq.stp (pc' := 38) (lv' := [some (.inr (.inr (.inl (76, 277)))), some (.inl a), some (.inl b)]) (st' := [.inr (.inr (.inl (76, 277)))]) (m' := (f, l)) rfl rfl (fl_bo rfl) rfl ?_
  refine fl_Tq.stp (pc' := 41) (lv' := [some (.inr (.inr (.inl (76, 277)))), some (.inl a), some (.inl b)]) (st' := [.inr (.inr (.inl (79, 280)))]) (m' := (f, l)) rfl rfl (fl_bo rfl) rfl ?_
  refine fl_Tq.cB (c := (17 : Int32)) rfl (by decide +kernel) (fl_bo rfl) ?_
  refine fl_Tq.ldV (p := 280) (τ := 79) (n := 29780) (z := (0, 0, 0)) (k := 17) (v := f 280 17) rfl (fl_bo rfl) rfl (by decide +kernel) (by decide) rfl ?_
  by_cases h1 : 0 < (f 280 17).toInt
  · refine fl_Tq.zf rfl (fl_bo rfl) (c1_le_f h1) rfl ?_
    exact k h1
  · refine fl_Tq.zt rfl (fl_bo rfl) (c1_le_t h1) rfl ?_
    exact k1 h1
theorem y_zone_A2 {L : Nat} {xs : Nat → Int32} {f : t2_F} {l : t2_L} {Q : Option fl_V → fl_M → Prop} {a b : Int32} (hz : 0 ≤ (f 280 17).toInt ∧ (f 280 17).toInt ≤ 6) (hp : 0 < (f 280 17).toInt) (k : ((f 280 ((67 + (2 * ((f 280 17).toInt.toNat))) - 2)).toInt < a.toInt) → fl_Tq (pw_P L xs) 259 72 [some (.inr (.inr (.inl (76, 277)))), some (.inl a), some (.inl b)] [] (f, l) Q) (k1 : (¬ ((f 280 ((67 + (2 * ((f 280 17).toInt.toNat))) - 2)).toInt < a.toInt)) → Q (some (.inl (-1 : Int32))) (f, l)) : fl_Tq (pw_P L xs) 259 47 [some (.inr (.inr (.inl (76, 277)))), some (.inl a), some (.inl b)] [] (f, l) Q := by
  refine fl_Tq.stp (pc' := 48) (lv' := [some (.inr (.inr (.inl (76, 277)))), some (.inl a), some (.inl b)]) (st' := [.inl a]) (m' := (f, l)) rfl rfl (fl_bo rfl) rfl ?_
  refine fl_Tq.stp (pc' := 49) (lv' := [some (.inr (.inr (.inl (76, 277)))), some (.inl a), some (.inl b)]) (st' := [.inr (.inr (.inl (76, 277))), .inl a]) (m' := (f, l)) rfl rfl (fl_bo rfl) rfl ?_
  refine fl_Tq.stp (pc' := 52) (lv' := [some (.inr (.inr (.inl (76, 277)))), some (.inl a), some (.inl b)]) (st' := [.inr (.inr (.inl (79, 280))), .inl a]) (m' := (f, l)) rfl rfl (fl_bo rfl) rfl ?_
  refine fl_Tq.cB (c := (67 : Int32)) rfl (by decide +kernel) (fl_bo rfl) ?_
  refine fl_Tq.cI (c := (2 : Int32)) rfl (by decide +kernel) (fl_bo rfl) ?_
  refine fl_Tq.stp (pc' := 56) (lv' := [some (.inr (.inr (.inl (76, 277)))), some (.inl a), some (.inl b)]) (st' := [.inr (.inr (.inl (76, 277))), .inl (2 : Int32), .inl (67 : Int32), .inr (.inr (.inl (79, 280))), .inl a]) (m' := (f, l)) rfl rfl (fl_bo rfl) rfl ?_
  refine fl_Tq.stp (pc' := 59) (lv' := [some (.inr (.inr (.inl (76, 277)))), some (.inl a), some (.inl b)]) (st' := [.inr (.inr (.inl (79, 280))), .inl (2 : Int32), .inl (67 : Int32), .inr (.inr (.inl (79, 280))), .inl a]) (m' := (f, l)) rfl rfl (fl_bo rfl) rfl ?_
  refine fl_Tq.cB (c := (17 : Int32)) rfl (by decide +kernel) (fl_bo rfl) ?_
  refine fl_Tq.ldV (p := 280) (τ := 79) (n := 29780) (z := (0, 0, 0)) (k := 17) (v := f 280 17) rfl (fl_bo rfl) rfl (by decide +kernel) (by decide) rfl ?_
  refine fl_Tq.stp (pc' := 63) (lv' := [some (.inr (.inr (.inl (76, 277)))), some (.inl a), some (.inl b)]) (st' := [.inl ((2 : Int32) * (f 280 17)), .inl (67 : Int32), .inr (.inr (.inl (79, 280))), .inl a]) (m' := (f, l)) rfl rfl (fl_bo rfl) rfl ?_
  refine fl_Tq.stp (pc' := 64) (lv' := [some (.inr (.inr (.inl (76, 277)))), some (.inl a), some (.inl b)]) (st' := [.inl ((67 : Int32) + ((2 : Int32) * (f 280 17))), .inr (.inr (.inl (79, 280))), .inl a]) (m' := (f, l)) rfl rfl (fl_bo rfl) rfl ?_
  refine fl_Tq.cI (c := (2 : Int32)) rfl (by decide +kernel) (fl_bo rfl) ?_
  refine fl_Tq.stp (pc' := 66) (lv' := [some (.inr (.inr (.inl (76, 277)))), some (.inl a), some (.inl b)]) (st' := [.inl (((67 : Int32) + ((2 : Int32) * (f 280 17))) - (2 : Int32)), .inr (.inr (.inl (79, 280))), .inl a]) (m' := (f, l)) rfl rfl (fl_bo rfl) rfl ?_
  refine fl_Tq.ldV (p := 280) (τ := 79) (n := 29780) (z := (0, 0, 0)) (k := (67 + (2 * ((f 280 17).toInt.toNat))) - 2) (v := f 280 ((67 + (2 * ((f 280 17).toInt.toNat))) - 2)) rfl (fl_bo rfl) rfl (t2_is (t2_ia (by decide +kernel) (t2_im (by decide +kernel) (t2_nn hz.1) (by omega)) (by omega)) (by decide +kernel) (by omega)) (by omega) rfl ?_
  by_cases h1 : (f 280 ((67 + (2 * ((f 280 17).toInt.toNat))) - 2)).toInt < a.toInt
  · refine fl_Tq.jt rfl (fl_bo rfl) (c2_gt_t h1) rfl ?_
    exact k h1
  · refine fl_Tq.jf rfl (fl_bo rfl) (c2_gt_f h1) rfl ?_
    refine fl_Tq.cI (c := (-1 : Int32)) rfl (by decide +kernel) (fl_bo rfl) ?_
    exact fl_Tq.ret rfl rfl rfl (k1 h1)
theorem y_zone_A3 {L : Nat} {xs : Nat → Int32} {f : t2_F} {l : t2_L} {Q : Option fl_V → fl_M → Prop} {a b : Int32}  (k : fl_Tq (pw_P L xs) 259 73 [some (.inr (.inr (.inl (76, 277)))), some (.inl a), some (.inl b)] [.inr (.inr (.inl (76, 277)))] (f, l) Q) : fl_Tq (pw_P L xs) 259 72 [some (.inr (.inr (.inl (76, 277)))), some (.inl a), some (.inl b)] [] (f, l) Q := by
  refine fl_Tq.stp (pc' := 73) (lv' := [some (.inr (.inr (.inl (76, 277)))), some (.inl a), some (.inl b)]) (st' := [.inr (.inr (.inl (76, 277)))]) (m' := (f, l)) rfl rfl (fl_bo rfl) rfl ?_
  exact k
theorem y_zone_B {L : Nat} {xs : Nat → Int32} {f : t2_F} {l : t2_L} {Q : Option fl_V → fl_M → Prop} {a b : Int32} (hz : 0 ≤ (f 280 17).toInt ∧ (f 280 17).toInt ≤ 5) (k : Q (some (.inl ((f 280 17) + (1 : Int32)))) (fl_row f 280 (upd (upd (upd (f 280) (67 + (2 * ((f 280 17).toInt.toNat))) a) ((67 + (2 * ((f 280 17).toInt.toNat))) + 1) b) 17 ((f 280 17) + (1 : Int32))), l)) : fl_Tq (pw_P L xs) 259 76 [some (.inr (.inr (.inl (76, 277)))), some (.inl a), some (.inl b)] [] (f, l) Q := by
  refine fl_Tq.stp (pc' := 77) (lv' := [some (.inr (.inr (.inl (76, 277)))), some (.inl a), some (.inl b)]) (st' := [.inr (.inr (.inl (76, 277)))]) (m' := (f, l)) rfl rfl (fl_bo rfl) rfl ?_
  refine fl_Tq.stp (pc' := 80) (lv' := [some (.inr (.inr (.inl (76, 277)))), some (.inl a), some (.inl b)]) (st' := [.inr (.inr (.inl (79, 280)))]) (m' := (f, l)) rfl rfl (fl_bo rfl) rfl ?_
  refine fl_Tq.cB (c := (67 : Int32)) rfl (by decide +kernel) (fl_bo rfl) ?_
  refine fl_Tq.cI (c := (2 : Int32)) rfl (by decide +kernel) (fl_bo rfl) ?_
  refine fl_Tq.stp (pc' := 84) (lv' := [some (.inr (.inr (.inl (76, 277)))), some (.inl a), some (.inl b)]) (st' := [.inr (.inr (.inl (76, 277))), .inl (2 : Int32), .inl (67 : Int32), .inr (.inr (.inl (79, 280)))]) (m' := (f, l)) rfl rfl (fl_bo rfl) rfl ?_
  refine fl_Tq.stp (pc' := 87) (lv' := [some (.inr (.inr (.inl (76, 277)))), some (.inl a), some (.inl b)]) (st' := [.inr (.inr (.inl (79, 280))), .inl (2 : Int32), .inl (67 : Int32), .inr (.inr (.inl (79, 280)))]) (m' := (f, l)) rfl rfl (fl_bo rfl) rfl ?_
  refine fl_Tq.cB (c := (17 : Int32)) rfl (by decide +kernel) (fl_bo rfl) ?_
  refine fl_Tq.ldV (p := 280) (τ := 79) (n := 29780) (z := (0, 0, 0)) (k := 17) (v := f 280 17) rfl (fl_bo rfl) rfl (by decide +kernel) (by decide) rfl ?_
  refine fl_Tq.stp (pc' := 91) (lv' := [some (.inr (.inr (.inl (76, 277)))), some (.inl a), some (.inl b)]) (st' := [.inl ((2 : Int32) * (f 280 17)), .inl (67 : Int32), .inr (.inr (.inl (79, 280)))]) (m' := (f, l)) rfl rfl (fl_bo rfl) rfl ?_
  refine fl_Tq.stp (pc' := 92) (lv' := [some (.inr (.inr (.inl (76, 277)))), some (.inl a), some (.inl b)]) (st' := [.inl ((67 : Int32) + ((2 : Int32) * (f 280 17))), .inr (.inr (.inl (79, 280)))]) (m' := (f, l)) rfl rfl (fl_bo rfl) rfl ?_
  refine fl_Tq.stp (pc' := 93) (lv' := [some (.inr (.inr (.inl (76, 277)))), some (.inl a), some (.inl b)]) (st' := [.inl a, .inl ((67 : Int32) + ((2 : Int32) * (f 280 17))), .inr (.inr (.inl (79, 280)))]) (m' := (f, l)) rfl rfl (fl_bo rfl) rfl ?_
  refine fl_Tq.svV (p := 280) (τ := 79) (n := 29780) (z := (0, 0, 0)) (k := 67 + (2 * ((f 280 17).toInt.toNat))) (m' := (fl_row f 280 (upd (f 280) (67 + (2 * ((f 280 17).toInt.toNat))) a), l)) rfl (fl_bo rfl) rfl (t2_ia (by decide +kernel) (t2_im (by decide +kernel) (t2_nn hz.1) (by omega)) (by omega)) (by omega) (t2_upn rfl) ?_
  refine fl_Tq.stp (pc' := 95) (lv' := [some (.inr (.inr (.inl (76, 277)))), some (.inl a), some (.inl b)]) (st' := [.inr (.inr (.inl (76, 277)))]) (m' := (fl_row f 280 (upd (f 280) (67 + (2 * ((f 280 17).toInt.toNat))) a), l)) rfl rfl (fl_bo rfl) rfl ?_
  refine fl_Tq.stp (pc' := 98) (lv' := [some (.inr (.inr (.inl (76, 277)))), some (.inl a), some (.inl b)]) (st' := [.inr (.inr (.inl (79, 280)))]) (m' := (fl_row f 280 (upd (f 280) (67 + (2 * ((f 280 17).toInt.toNat))) a), l)) rfl rfl (fl_bo rfl) rfl ?_
  refine fl_Tq.cB (c := (67 : Int32)) rfl (by decide +kernel) (fl_bo rfl) ?_
  refine fl_Tq.cI (c := (2 : Int32)) rfl (by decide +kernel) (fl_bo rfl) ?_
  refine fl_Tq.stp (pc' := 102) (lv' := [some (.inr (.inr (.inl (76, 277)))), some (.inl a), some (.inl b)]) (st' := [.inr (.inr (.inl (76, 277))), .inl (2 : Int32), .inl (67 : Int32), .inr (.inr (.inl (79, 280)))]) (m' := (fl_row f 280 (upd (f 280) (67 + (2 * ((f 280 17).toInt.toNat))) a), l)) rfl rfl (fl_bo rfl) rfl ?_
  refine fl_Tq.stp (pc' := 105) (lv' := [some (.inr (.inr (.inl (76, 277)))), some (.inl a), some (.inl b)]) (st' := [.inr (.inr (.inl (79, 280))), .inl (2 : Int32), .inl (67 : Int32), .inr (.inr (.inl (79, 280)))]) (m' := (fl_row f 280 (upd (f 280) (67 + (2 * ((f 280 17).toInt.toNat))) a), l)) rfl rfl (fl_bo rfl) rfl ?_
  refine fl_Tq.cB (c := (17 : Int32)) rfl (by decide +kernel) (fl_bo rfl) ?_
  refine fl_Tq.ldV (p := 280) (τ := 79) (n := 29780) (z := (0, 0, 0)) (k := 17) (v := f 280 17) rfl (fl_bo rfl) rfl (by decide +kernel) (by decide) (by simp only [fl_row_self, upd_ne (by omega : 17 ≠ 67 + (2 * ((f 280 17).toInt.toNat)))]) ?_
  refine fl_Tq.stp (pc' := 109) (lv' := [some (.inr (.inr (.inl (76, 277)))), some (.inl a), some (.inl b)]) (st' := [.inl ((2 : Int32) * (f 280 17)), .inl (67 : Int32), .inr (.inr (.inl (79, 280)))]) (m' := (fl_row f 280 (upd (f 280) (67 + (2 * ((f 280 17).toInt.toNat))) a), l)) rfl rfl (fl_bo rfl) rfl ?_
  refine fl_Tq.stp (pc' := 110) (lv' := [some (.inr (.inr (.inl (76, 277)))), some (.inl a), some (.inl b)]) (st' := [.inl ((67 : Int32) + ((2 : Int32) * (f 280 17))), .inr (.inr (.inl (79, 280)))]) (m' := (fl_row f 280 (upd (f 280) (67 + (2 * ((f 280 17).toInt.toNat))) a), l)) rfl rfl (fl_bo rfl) rfl ?_
  refine fl_Tq.cI (c := (1 : Int32)) rfl (by decide +kernel) (fl_bo rfl) ?_
  refine fl_Tq.stp (pc' := 112) (lv' := [some (.inr (.inr (.inl (76, 277)))), some (.inl a), some (.inl b)]) (st' := [.inl (((67 : Int32) + ((2 : Int32) * (f 280 17))) + (1 : Int32)), .inr (.inr (.inl (79, 280)))]) (m' := (fl_row f 280 (upd (f 280) (67 + (2 * ((f 280 17).toInt.toNat))) a), l)) rfl rfl (fl_bo rfl) rfl ?_
  refine fl_Tq.stp (pc' := 113) (lv' := [some (.inr (.inr (.inl (76, 277)))), some (.inl a), some (.inl b)]) (st' := [.inl b, .inl (((67 : Int32) + ((2 : Int32) * (f 280 17))) + (1 : Int32)), .inr (.inr (.inl (79, 280)))]) (m' := (fl_row f 280 (upd (f 280) (67 + (2 * ((f 280 17).toInt.toNat))) a), l)) rfl rfl (fl_bo rfl) rfl ?_
  refine fl_Tq.svV (p := 280) (τ := 79) (n := 29780) (z := (0, 0, 0)) (k := (67 + (2 * ((f 280 17).toInt.toNat))) + 1) (m' := (fl_row f 280 (upd (upd (f 280) (67 + (2 * ((f 280 17).toInt.toNat))) a) ((67 + (2 * ((f 280 17).toInt.toNat))) + 1) b), l)) rfl (fl_bo rfl) rfl (t2_ia (t2_ia (by decide +kernel) (t2_im (by decide +kernel) (t2_nn hz.1) (by omega)) (by omega)) (by decide +kernel) (by omega)) (by omega) (t2_upr) ?_
  refine fl_Tq.stp (pc' := 115) (lv' := [some (.inr (.inr (.inl (76, 277)))), some (.inl a), some (.inl b)]) (st' := [.inr (.inr (.inl (76, 277)))]) (m' := (fl_row f 280 (upd (upd (f 280) (67 + (2 * ((f 280 17).toInt.toNat))) a) ((67 + (2 * ((f 280 17).toInt.toNat))) + 1) b), l)) rfl rfl (fl_bo rfl) rfl ?_
  refine fl_Tq.stp (pc' := 118) (lv' := [some (.inr (.inr (.inl (76, 277)))), some (.inl a), some (.inl b)]) (st' := [.inr (.inr (.inl (79, 280)))]) (m' := (fl_row f 280 (upd (upd (f 280) (67 + (2 * ((f 280 17).toInt.toNat))) a) ((67 + (2 * ((f 280 17).toInt.toNat))) + 1) b), l)) rfl rfl (fl_bo rfl) rfl ?_
  refine fl_Tq.cB (c := (17 : Int32)) rfl (by decide +kernel) (fl_bo rfl) ?_
  refine fl_Tq.stp (pc' := 121) (lv' := [some (.inr (.inr (.inl (76, 277)))), some (.inl a), some (.inl b)]) (st' := [.inl (17 : Int32), .inr (.inr (.inl (79, 280))), .inl (17 : Int32), .inr (.inr (.inl (79, 280)))]) (m' := (fl_row f 280 (upd (upd (f 280) (67 + (2 * ((f 280 17).toInt.toNat))) a) ((67 + (2 * ((f 280 17).toInt.toNat))) + 1) b), l)) rfl rfl (fl_bo rfl) rfl ?_
  refine fl_Tq.ldV (p := 280) (τ := 79) (n := 29780) (z := (0, 0, 0)) (k := 17) (v := f 280 17) rfl (fl_bo rfl) rfl (by decide +kernel) (by decide) (by simp only [fl_row_self, upd_ne (by omega : 17 ≠ (67 + (2 * ((f 280 17).toInt.toNat))) + 1), upd_ne (by omega : 17 ≠ 67 + (2 * ((f 280 17).toInt.toNat)))]) ?_
  refine fl_Tq.cI (c := (1 : Int32)) rfl (by decide +kernel) (fl_bo rfl) ?_
  refine fl_Tq.stp (pc' := 124) (lv' := [some (.inr (.inr (.inl (76, 277)))), some (.inl a), some (.inl b)]) (st' := [.inl ((f 280 17) + (1 : Int32)), .inl (17 : Int32), .inr (.inr (.inl (79, 280)))]) (m' := (fl_row f 280 (upd (upd (f 280) (67 + (2 * ((f 280 17).toInt.toNat))) a) ((67 + (2 * ((f 280 17).toInt.toNat))) + 1) b), l)) rfl rfl (fl_bo rfl) rfl ?_
  refine fl_Tq.svV (p := 280) (τ := 79) (n := 29780) (z := (0, 0, 0)) (k := 17) (m' := (fl_row f 280 (upd (upd (upd (f 280) (67 + (2 * ((f 280 17).toInt.toNat))) a) ((67 + (2 * ((f 280 17).toInt.toNat))) + 1) b) 17 ((f 280 17) + (1 : Int32))), l)) rfl (fl_bo rfl) rfl (by decide +kernel) (by decide) (t2_upr) ?_
  refine fl_Tq.stp (pc' := 126) (lv' := [some (.inr (.inr (.inl (76, 277)))), some (.inl a), some (.inl b)]) (st' := [.inr (.inr (.inl (76, 277)))]) (m' := (fl_row f 280 (upd (upd (upd (f 280) (67 + (2 * ((f 280 17).toInt.toNat))) a) ((67 + (2 * ((f 280 17).toInt.toNat))) + 1) b) 17 ((f 280 17) + (1 : Int32))), l)) rfl rfl (fl_bo rfl) rfl ?_
  refine fl_Tq.stp (pc' := 129) (lv' := [some (.inr (.inr (.inl (76, 277)))), some (.inl a), some (.inl b)]) (st' := [.inr (.inr (.inl (79, 280)))]) (m' := (fl_row f 280 (upd (upd (upd (f 280) (67 + (2 * ((f 280 17).toInt.toNat))) a) ((67 + (2 * ((f 280 17).toInt.toNat))) + 1) b) 17 ((f 280 17) + (1 : Int32))), l)) rfl rfl (fl_bo rfl) rfl ?_
  refine fl_Tq.cB (c := (17 : Int32)) rfl (by decide +kernel) (fl_bo rfl) ?_
  refine fl_Tq.ldV (p := 280) (τ := 79) (n := 29780) (z := (0, 0, 0)) (k := 17) (v := (f 280 17) + (1 : Int32)) rfl (fl_bo rfl) rfl (by decide +kernel) (by decide) (by simp only [fl_row_self, upd_self]) ?_
  exact fl_Tq.ret rfl rfl rfl k
theorem y_piece_A {L : Nat} {xs : Nat → Int32} {f : t2_F} {l : t2_L} {Q : Option fl_V → fl_M → Prop} {a b : Int32}  (k : ((r_isIn_v a (-99999 : Int32) (99999 : Int32)).toInt = 0) → Q (some (.inl (-1 : Int32))) (f, l)) (k1 : (¬ ((r_isIn_v a (-99999 : Int32) (99999 : Int32)).toInt = 0)) → ((r_isIn_v b (1 : Int32) (99 : Int32)).toInt = 0) → Q (some (.inl (-1 : Int32))) (f, l)) (k2 : (¬ ((r_isIn_v a (-99999 : Int32) (99999 : Int32)).toInt = 0)) → (¬ ((r_isIn_v b (1 : Int32) (99 : Int32)).toInt = 0)) → ((f 280 19).toInt = (24 : Int32).toInt) → Q (some (.inl (-1 : Int32))) (f, l)) (k3 : (¬ ((r_isIn_v a (-99999 : Int32) (99999 : Int32)).toInt = 0)) → (¬ ((r_isIn_v b (1 : Int32) (99 : Int32)).toInt = 0)) → (¬ ((f 280 19).toInt = (24 : Int32).toInt)) → fl_Tq (pw_P L xs) 260 36 [some (.inr (.inr (.inl (76, 277)))), some (.inl a), some (.inl b)] [.inr (.inr (.inl (76, 277)))] (f, l) Q) : fl_Tq (pw_P L xs) 260 0 [some (.inr (.inr (.inl (76, 277)))), some (.inl a), some (.inl b)] [] (f, l) Q := by
  refine fl_Tq.stp (pc' := 1) (lv' := [some (.inr (.inr (.inl (76, 277)))), some (.inl a), some (.inl b)]) (st' := [.inl a]) (m' := (f, l)) rfl rfl (fl_bo rfl) rfl ?_
  refine fl_Tq.stp (pc' := 3) (lv' := [some (.inr (.inr (.inl (76, 277)))), some (.inl a), some (.inl b)]) (st' := [.inl (-99999 : Int32), .inl a]) (m' := (f, l)) rfl rfl (fl_bo rfl) rfl ?_
  refine fl_Tq.stp (pc' := 5) (lv' := [some (.inr (.inr (.inl (76, 277)))), some (.inl a), some (.inl b)]) (st' := [.inl (99999 : Int32), .inl (-99999 : Int32), .inl a]) (m' := (f, l)) rfl rfl (fl_bo rfl) rfl ?_
  refine fl_Tq.cal rfl rfl (fl_bo rfl) rfl ?_
  refine r_isIn_q  ?_
  show fl_Tq _ 260 8 [some (.inr (.inr (.inl (76, 277)))), some (.inl a), some (.inl b)] [.inl (r_isIn_v a (-99999 : Int32) (99999 : Int32))] (f, l) _
  by_cases h1 : (r_isIn_v a (-99999 : Int32) (99999 : Int32)).toInt = 0
  · refine fl_Tq.zt rfl (fl_bo rfl) (c1_eq_t h1) rfl ?_
    refine fl_Tq.cI (c := (-1 : Int32)) rfl (by decide +kernel) (fl_bo rfl) ?_
    exact fl_Tq.ret rfl rfl rfl (k h1)
  · refine fl_Tq.zf rfl (fl_bo rfl) (c1_eq_f h1) rfl ?_
    refine fl_Tq.stp (pc' := 12) (lv' := [some (.inr (.inr (.inl (76, 277)))), some (.inl a), some (.inl b)]) (st' := [.inl b]) (m' := (f, l)) rfl rfl (fl_bo rfl) rfl ?_
    refine fl_Tq.cI (c := (1 : Int32)) rfl (by decide +kernel) (fl_bo rfl) ?_
    refine fl_Tq.cB (c := (99 : Int32)) rfl (by decide +kernel) (fl_bo rfl) ?_
    refine fl_Tq.cal rfl rfl (fl_bo rfl) rfl ?_
    refine r_isIn_q  ?_
    show fl_Tq _ 260 18 [some (.inr (.inr (.inl (76, 277)))), some (.inl a), some (.inl b)] [.inl (r_isIn_v b (1 : Int32) (99 : Int32))] (f, l) _
    by_cases h2 : (r_isIn_v b (1 : Int32) (99 : Int32)).toInt = 0
    · refine fl_Tq.zt rfl (fl_bo rfl) (c1_eq_t h2) rfl ?_
      refine fl_Tq.cI (c := (-1 : Int32)) rfl (by decide +kernel) (fl_bo rfl) ?_
      exact fl_Tq.ret rfl rfl rfl (k1 h1 h2)
    · refine fl_Tq.zf rfl (fl_bo rfl) (c1_eq_f h2) rfl ?_
      refine fl_Tq.stp (pc' := 22) (lv' := [some (.inr (.inr (.inl (76, 277)))), some (.inl a), some (.inl b)]) (st' := [.inr (.inr (.inl (76, 277)))]) (m' := (f, l)) rfl rfl (fl_bo rfl) rfl ?_
      refine fl_Tq.stp (pc' := 25) (lv' := [some (.inr (.inr (.inl (76, 277)))), some (.inl a), some (.inl b)]) (st' := [.inr (.inr (.inl (79, 280)))]) (m' := (f, l)) rfl rfl (fl_bo rfl) rfl ?_
      refine fl_Tq.cB (c := (19 : Int32)) rfl (by decide +kernel) (fl_bo rfl) ?_
      refine fl_Tq.ldV (p := 280) (τ := 79) (n := 29780) (z := (0, 0, 0)) (k := 19) (v := f 280 19) rfl (fl_bo rfl) rfl (by decide +kernel) (by decide) rfl ?_
      refine fl_Tq.cB (c := (24 : Int32)) rfl (by decide +kernel) (fl_bo rfl) ?_
      by_cases h3 : (f 280 19).toInt = (24 : Int32).toInt
      · refine fl_Tq.jf rfl (fl_bo rfl) (c2_ne_f h3) rfl ?_
        refine fl_Tq.cI (c := (-1 : Int32)) rfl (by decide +kernel) (fl_bo rfl) ?_
        exact fl_Tq.ret rfl rfl rfl (k2 h1 h2 h3)
      · refine fl_Tq.jt rfl (fl_bo rfl) (c2_ne_t h3) rfl ?_
        refine fl_Tq.stp (pc' := 36) (lv' := [some (.inr (.inr (.inl (76, 277)))), some (.inl a), some (.inl b)]) (st' := [.inr (.inr (.inl (76, 277)))]) (m' := (f, l)) rfl rfl (fl_bo rfl) rfl ?_
        exact k3 h1 h2 h3
theorem y_piece_B {L : Nat} {xs : Nat → Int32} {f : t2_F} {l : t2_L} {Q : Option fl_V → fl_M → Prop} {a b : Int32} (hz : 0 ≤ (f 280 19).toInt ∧ (f 280 19).toInt ≤ 23) (k : Q (some (.inl ((f 280 19) + (1 : Int32)))) (fl_row f 280 (upd (upd (upd (f 280) (119 + (2 * ((f 280 19).toInt.toNat))) a) ((119 + (2 * ((f 280 19).toInt.toNat))) + 1) b) 19 ((f 280 19) + (1 : Int32))), l)) : fl_Tq (pw_P L xs) 260 39 [some (.inr (.inr (.inl (76, 277)))), some (.inl a), some (.inl b)] [] (f, l) Q := by
  refine fl_Tq.stp (pc' := 40) (lv' := [some (.inr (.inr (.inl (76, 277)))), some (.inl a), some (.inl b)]) (st' := [.inr (.inr (.inl (76, 277)))]) (m' := (f, l)) rfl rfl (fl_bo rfl) rfl ?_
  refine fl_Tq.stp (pc' := 43) (lv' := [some (.inr (.inr (.inl (76, 277)))), some (.inl a), some (.inl b)]) (st' := [.inr (.inr (.inl (79, 280)))]) (m' := (f, l)) rfl rfl (fl_bo rfl) rfl ?_
  refine fl_Tq.cB (c := (119 : Int32)) rfl (by decide +kernel) (fl_bo rfl) ?_
  refine fl_Tq.cI (c := (2 : Int32)) rfl (by decide +kernel) (fl_bo rfl) ?_
  refine fl_Tq.stp (pc' := 47) (lv' := [some (.inr (.inr (.inl (76, 277)))), some (.inl a), some (.inl b)]) (st' := [.inr (.inr (.inl (76, 277))), .inl (2 : Int32), .inl (119 : Int32), .inr (.inr (.inl (79, 280)))]) (m' := (f, l)) rfl rfl (fl_bo rfl) rfl ?_
  refine fl_Tq.stp (pc' := 50) (lv' := [some (.inr (.inr (.inl (76, 277)))), some (.inl a), some (.inl b)]) (st' := [.inr (.inr (.inl (79, 280))), .inl (2 : Int32), .inl (119 : Int32), .inr (.inr (.inl (79, 280)))]) (m' := (f, l)) rfl rfl (fl_bo rfl) rfl ?_
  refine fl_Tq.cB (c := (19 : Int32)) rfl (by decide +kernel) (fl_bo rfl) ?_
  refine fl_Tq.ldV (p := 280) (τ := 79) (n := 29780) (z := (0, 0, 0)) (k := 19) (v := f 280 19) rfl (fl_bo rfl) rfl (by decide +kernel) (by decide) rfl ?_
  refine fl_Tq.stp (pc' := 54) (lv' := [some (.inr (.inr (.inl (76, 277)))), some (.inl a), some (.inl b)]) (st' := [.inl ((2 : Int32) * (f 280 19)), .inl (119 : Int32), .inr (.inr (.inl (79, 280)))]) (m' := (f, l)) rfl rfl (fl_bo rfl) rfl ?_
  refine fl_Tq.stp (pc' := 55) (lv' := [some (.inr (.inr (.inl (76, 277)))), some (.inl a), some (.inl b)]) (st' := [.inl ((119 : Int32) + ((2 : Int32) * (f 280 19))), .inr (.inr (.inl (79, 280)))]) (m' := (f, l)) rfl rfl (fl_bo rfl) rfl ?_
  refine fl_Tq.stp (pc' := 56) (lv' := [some (.inr (.inr (.inl (76, 277)))), some (.inl a), some (.inl b)]) (st' := [.inl a, .inl ((119 : Int32) + ((2 : Int32) * (f 280 19))), .inr (.inr (.inl (79, 280)))]) (m' := (f, l)) rfl rfl (fl_bo rfl) rfl ?_
  refine fl_Tq.svV (p := 280) (τ := 79) (n := 29780) (z := (0, 0, 0)) (k := 119 + (2 * ((f 280 19).toInt.toNat))) (m' := (fl_row f 280 (upd (f 280) (119 + (2 * ((f 280 19).toInt.toNat))) a), l)) rfl (fl_bo rfl) rfl (t2_ia (by decide +kernel) (t2_im (by decide +kernel) (t2_nn hz.1) (by omega)) (by omega)) (by omega) (t2_upn rfl) ?_
  refine fl_Tq.stp (pc' := 58) (lv' := [some (.inr (.inr (.inl (76, 277)))), some (.inl a), some (.inl b)]) (st' := [.inr (.inr (.inl (76, 277)))]) (m' := (fl_row f 280 (upd (f 280) (119 + (2 * ((f 280 19).toInt.toNat))) a), l)) rfl rfl (fl_bo rfl) rfl ?_
  refine fl_Tq.stp (pc' := 61) (lv' := [some (.inr (.inr (.inl (76, 277)))), some (.inl a), some (.inl b)]) (st' := [.inr (.inr (.inl (79, 280)))]) (m' := (fl_row f 280 (upd (f 280) (119 + (2 * ((f 280 19).toInt.toNat))) a), l)) rfl rfl (fl_bo rfl) rfl ?_
  refine fl_Tq.cB (c := (119 : Int32)) rfl (by decide +kernel) (fl_bo rfl) ?_
  refine fl_Tq.cI (c := (2 : Int32)) rfl (by decide +kernel) (fl_bo rfl) ?_
  refine fl_Tq.stp (pc' := 65) (lv' := [some (.inr (.inr (.inl (76, 277)))), some (.inl a), some (.inl b)]) (st' := [.inr (.inr (.inl (76, 277))), .inl (2 : Int32), .inl (119 : Int32), .inr (.inr (.inl (79, 280)))]) (m' := (fl_row f 280 (upd (f 280) (119 + (2 * ((f 280 19).toInt.toNat))) a), l)) rfl rfl (fl_bo rfl) rfl ?_
  refine fl_Tq.stp (pc' := 68) (lv' := [some (.inr (.inr (.inl (76, 277)))), some (.inl a), some (.inl b)]) (st' := [.inr (.inr (.inl (79, 280))), .inl (2 : Int32), .inl (119 : Int32), .inr (.inr (.inl (79, 280)))]) (m' := (fl_row f 280 (upd (f 280) (119 + (2 * ((f 280 19).toInt.toNat))) a), l)) rfl rfl (fl_bo rfl) rfl ?_
  refine fl_Tq.cB (c := (19 : Int32)) rfl (by decide +kernel) (fl_bo rfl) ?_
  refine fl_Tq.ldV (p := 280) (τ := 79) (n := 29780) (z := (0, 0, 0)) (k := 19) (v := f 280 19) rfl (fl_bo rfl) rfl (by decide +kernel) (by decide) (by simp only [fl_row_self, upd_ne (by omega : 19 ≠ 119 + (2 * ((f 280 19).toInt.toNat)))]) ?_
  refine fl_Tq.stp (pc' := 72) (lv' := [some (.inr (.inr (.inl (76, 277)))), some (.inl a), some (.inl b)]) (st' := [.inl ((2 : Int32) * (f 280 19)), .inl (119 : Int32), .inr (.inr (.inl (79, 280)))]) (m' := (fl_row f 280 (upd (f 280) (119 + (2 * ((f 280 19).toInt.toNat))) a), l)) rfl rfl (fl_bo rfl) rfl ?_
  refine fl_Tq.stp (pc' := 73) (lv' := [some (.inr (.inr (.inl (76, 277)))), some (.inl a), some (.inl b)]) (st' := [.inl ((119 : Int32) + ((2 : Int32) * (f 280 19))), .inr (.inr (.inl (79, 280)))]) (m' := (fl_row f 280 (upd (f 280) (119 + (2 * ((f 280 19).toInt.toNat))) a), l)) rfl rfl (fl_bo rfl) rfl ?_
  refine fl_Tq.cI (c := (1 : Int32)) rfl (by decide +kernel) (fl_bo rfl) ?_
  refine fl_Tq.stp (pc' := 75) (lv' := [some (.inr (.inr (.inl (76, 277)))), some (.inl a), some (.inl b)]) (st' := [.inl (((119 : Int32) + ((2 : Int32) * (f 280 19))) + (1 : Int32)), .inr (.inr (.inl (79, 280)))]) (m' := (fl_row f 280 (upd (f 280) (119 + (2 * ((f 280 19).toInt.toNat))) a), l)) rfl rfl (fl_bo rfl) rfl ?_
  refine fl_Tq.stp (pc' := 76) (lv' := [some (.inr (.inr (.inl (76, 277)))), some (.inl a), some (.inl b)]) (st' := [.inl b, .inl (((119 : Int32) + ((2 : Int32) * (f 280 19))) + (1 : Int32)), .inr (.inr (.inl (79, 280)))]) (m' := (fl_row f 280 (upd (f 280) (119 + (2 * ((f 280 19).toInt.toNat))) a), l)) rfl rfl (fl_bo rfl) rfl ?_
  refine fl_Tq.svV (p := 280) (τ := 79) (n := 29780) (z := (0, 0, 0)) (k := (119 + (2 * ((f 280 19).toInt.toNat))) + 1) (m' := (fl_row f 280 (upd (upd (f 280) (119 + (2 * ((f 280 19).toInt.toNat))) a) ((119 + (2 * ((f 280 19).toInt.toNat))) + 1) b), l)) rfl (fl_bo rfl) rfl (t2_ia (t2_ia (by decide +kernel) (t2_im (by decide +kernel) (t2_nn hz.1) (by omega)) (by omega)) (by decide +kernel) (by omega)) (by omega) (t2_upr) ?_
  refine fl_Tq.stp (pc' := 78) (lv' := [some (.inr (.inr (.inl (76, 277)))), some (.inl a), some (.inl b)]) (st' := [.inr (.inr (.inl (76, 277)))]) (m' := (fl_row f 280 (upd (upd (f 280) (119 + (2 * ((f 280 19).toInt.toNat))) a) ((119 + (2 * ((f 280 19).toInt.toNat))) + 1) b), l)) rfl rfl (fl_bo rfl) rfl ?_
  refine fl_Tq.stp (pc' := 81) (lv' := [some (.inr (.inr (.inl (76, 277)))), some (.inl a), some (.inl b)]) (st' := [.inr (.inr (.inl (79, 280)))]) (m' := (fl_row f 280 (upd (upd (f 280) (119 + (2 * ((f 280 19).toInt.toNat))) a) ((119 + (2 * ((f 280 19).toInt.toNat))) + 1) b), l)) rfl rfl (fl_bo rfl) rfl ?_
  refine fl_Tq.cB (c := (19 : Int32)) rfl (by decide +kernel) (fl_bo rfl) ?_
  refine fl_Tq.stp (pc' := 84) (lv' := [some (.inr (.inr (.inl (76, 277)))), some (.inl a), some (.inl b)]) (st' := [.inl (19 : Int32), .inr (.inr (.inl (79, 280))), .inl (19 : Int32), .inr (.inr (.inl (79, 280)))]) (m' := (fl_row f 280 (upd (upd (f 280) (119 + (2 * ((f 280 19).toInt.toNat))) a) ((119 + (2 * ((f 280 19).toInt.toNat))) + 1) b), l)) rfl rfl (fl_bo rfl) rfl ?_
  refine fl_Tq.ldV (p := 280) (τ := 79) (n := 29780) (z := (0, 0, 0)) (k := 19) (v := f 280 19) rfl (fl_bo rfl) rfl (by decide +kernel) (by decide) (by simp only [fl_row_self, upd_ne (by omega : 19 ≠ (119 + (2 * ((f 280 19).toInt.toNat))) + 1), upd_ne (by omega : 19 ≠ 119 + (2 * ((f 280 19).toInt.toNat)))]) ?_
  refine fl_Tq.cI (c := (1 : Int32)) rfl (by decide +kernel) (fl_bo rfl) ?_
  refine fl_Tq.stp (pc' := 87) (lv' := [some (.inr (.inr (.inl (76, 277)))), some (.inl a), some (.inl b)]) (st' := [.inl ((f 280 19) + (1 : Int32)), .inl (19 : Int32), .inr (.inr (.inl (79, 280)))]) (m' := (fl_row f 280 (upd (upd (f 280) (119 + (2 * ((f 280 19).toInt.toNat))) a) ((119 + (2 * ((f 280 19).toInt.toNat))) + 1) b), l)) rfl rfl (fl_bo rfl) rfl ?_
  refine fl_Tq.svV (p := 280) (τ := 79) (n := 29780) (z := (0, 0, 0)) (k := 19) (m' := (fl_row f 280 (upd (upd (upd (f 280) (119 + (2 * ((f 280 19).toInt.toNat))) a) ((119 + (2 * ((f 280 19).toInt.toNat))) + 1) b) 19 ((f 280 19) + (1 : Int32))), l)) rfl (fl_bo rfl) rfl (by decide +kernel) (by decide) (t2_upr) ?_
  refine fl_Tq.stp (pc' := 89) (lv' := [some (.inr (.inr (.inl (76, 277)))), some (.inl a), some (.inl b)]) (st' := [.inr (.inr (.inl (76, 277)))]) (m' := (fl_row f 280 (upd (upd (upd (f 280) (119 + (2 * ((f 280 19).toInt.toNat))) a) ((119 + (2 * ((f 280 19).toInt.toNat))) + 1) b) 19 ((f 280 19) + (1 : Int32))), l)) rfl rfl (fl_bo rfl) rfl ?_
  refine fl_Tq.stp (pc' := 92) (lv' := [some (.inr (.inr (.inl (76, 277)))), some (.inl a), some (.inl b)]) (st' := [.inr (.inr (.inl (79, 280)))]) (m' := (fl_row f 280 (upd (upd (upd (f 280) (119 + (2 * ((f 280 19).toInt.toNat))) a) ((119 + (2 * ((f 280 19).toInt.toNat))) + 1) b) 19 ((f 280 19) + (1 : Int32))), l)) rfl rfl (fl_bo rfl) rfl ?_
  refine fl_Tq.cB (c := (19 : Int32)) rfl (by decide +kernel) (fl_bo rfl) ?_
  refine fl_Tq.ldV (p := 280) (τ := 79) (n := 29780) (z := (0, 0, 0)) (k := 19) (v := (f 280 19) + (1 : Int32)) rfl (fl_bo rfl) rfl (by decide +kernel) (by decide) (by simp only [fl_row_self, upd_self]) ?_
  exact fl_Tq.ret rfl rfl rfl k
theorem y_rule_A {L : Nat} {xs : Nat → Int32} {f : t2_F} {l : t2_L} {Q : Option fl_V → fl_M → Prop} {a b c d e : Int32}  (k : ((r_isIn_v a (0 : Int32) (13 : Int32)).toInt = 0) → Q (some (.inl (-1 : Int32))) (f, l)) (k1 : (¬ ((r_isIn_v a (0 : Int32) (13 : Int32)).toInt = 0)) → fl_Tq (pw_P L xs) 261 15 [some (.inr (.inr (.inl (76, 277)))), some (.inl a), some (.inl b), some (.inl c), some (.inl d), some (.inl e), none] [.inl e, .inl d, .inr (.inr (.inl (76, 277)))] (f, l) Q) : fl_Tq (pw_P L xs) 261 0 [some (.inr (.inr (.inl (76, 277)))), some (.inl a), some (.inl b), some (.inl c), some (.inl d), some (.inl e), none] [] (f, l) Q := by
  refine fl_Tq.stp (pc' := 1) (lv' := [some (.inr (.inr (.inl (76, 277)))), some (.inl a), some (.inl b), some (.inl c), some (.inl d), some (.inl e), none]) (st' := [.inl a]) (m' := (f, l)) rfl rfl (fl_bo rfl) rfl ?_
  refine fl_Tq.cI (c := (0 : Int32)) rfl (by decide +kernel) (fl_bo rfl) ?_
  refine fl_Tq.cB (c := (13 : Int32)) rfl (by decide +kernel) (fl_bo rfl) ?_
  refine fl_Tq.cal rfl rfl (fl_bo rfl) rfl ?_
  refine r_isIn_q  ?_
  show fl_Tq _ 261 7 [some (.inr (.inr (.inl (76, 277)))), some (.inl a), some (.inl b), some (.inl c), some (.inl d), some (.inl e), none] [.inl (r_isIn_v a (0 : Int32) (13 : Int32))] (f, l) _
  by_cases h1 : (r_isIn_v a (0 : Int32) (13 : Int32)).toInt = 0
  · refine fl_Tq.zt rfl (fl_bo rfl) (c1_eq_t h1) rfl ?_
    refine fl_Tq.cI (c := (-1 : Int32)) rfl (by decide +kernel) (fl_bo rfl) ?_
    exact fl_Tq.ret rfl rfl rfl (k h1)
  · refine fl_Tq.zf rfl (fl_bo rfl) (c1_eq_f h1) rfl ?_
    refine fl_Tq.stp (pc' := 11) (lv' := [some (.inr (.inr (.inl (76, 277)))), some (.inl a), some (.inl b), some (.inl c), some (.inl d), some (.inl e), none]) (st' := [.inr (.inr (.inl (76, 277)))]) (m' := (f, l)) rfl rfl (fl_bo rfl) rfl ?_
    refine fl_Tq.stp (pc' := 13) (lv' := [some (.inr (.inr (.inl (76, 277)))), some (.inl a), some (.inl b), some (.inl c), some (.inl d), some (.inl e), none]) (st' := [.inl d, .inr (.inr (.inl (76, 277)))]) (m' := (f, l)) rfl rfl (fl_bo rfl) rfl ?_
    refine fl_Tq.stp (pc' := 15) (lv' := [some (.inr (.inr (.inl (76, 277)))), some (.inl a), some (.inl b), some (.inl c), some (.inl d), some (.inl e), none]) (st' := [.inl e, .inl d, .inr (.inr (.inl (76, 277)))]) (m' := (f, l)) rfl rfl (fl_bo rfl) rfl ?_
    exact k1 h1
theorem y_rule_A2 {L : Nat} {xs : Nat → Int32} {f : t2_F} {l : t2_L} {Q : Option fl_V → fl_M → Prop} {a b c d e z : Int32}  (k : (z.toInt = 0) → Q (some (.inl (-1 : Int32))) (f, l)) (k1 : (¬ (z.toInt = 0)) → ((f 280 18).toInt = (8 : Int32).toInt) → Q (some (.inl (-1 : Int32))) (f, l)) (k2 : (¬ (z.toInt = 0)) → (¬ ((f 280 18).toInt = (8 : Int32).toInt)) → fl_Tq (pw_P L xs) 261 36 [some (.inr (.inr (.inl (76, 277)))), some (.inl a), some (.inl b), some (.inl c), some (.inl d), some (.inl e), none] [.inr (.inr (.inl (76, 277)))] (f, l) Q) : fl_Tq (pw_P L xs) 261 18 [some (.inr (.inr (.inl (76, 277)))), some (.inl a), some (.inl b), some (.inl c), some (.inl d), some (.inl e), none] [.inl z] (f, l) Q := by
  by_cases h1 : z.toInt = 0
  · refine fl_Tq.zt rfl (fl_bo rfl) (c1_eq_t h1) rfl ?_
    refine fl_Tq.cI (c := (-1 : Int32)) rfl (by decide +kernel) (fl_bo rfl) ?_
    exact fl_Tq.ret rfl rfl rfl (k h1)
  · refine fl_Tq.zf rfl (fl_bo rfl) (c1_eq_f h1) rfl ?_
    refine fl_Tq.stp (pc' := 22) (lv' := [some (.inr (.inr (.inl (76, 277)))), some (.inl a), some (.inl b), some (.inl c), some (.inl d), some (.inl e), none]) (st' := [.inr (.inr (.inl (76, 277)))]) (m' := (f, l)) rfl rfl (fl_bo rfl) rfl ?_
    refine fl_Tq.stp (pc' := 25) (lv' := [some (.inr (.inr (.inl (76, 277)))), some (.inl a), some (.inl b), some (.inl c), some (.inl d), some (.inl e), none]) (st' := [.inr (.inr (.inl (79, 280)))]) (m' := (f, l)) rfl rfl (fl_bo rfl) rfl ?_
    refine fl_Tq.cB (c := (18 : Int32)) rfl (by decide +kernel) (fl_bo rfl) ?_
    refine fl_Tq.ldV (p := 280) (τ := 79) (n := 29780) (z := (0, 0, 0)) (k := 18) (v := f 280 18) rfl (fl_bo rfl) rfl (by decide +kernel) (by decide) rfl ?_
    refine fl_Tq.cB (c := (8 : Int32)) rfl (by decide +kernel) (fl_bo rfl) ?_
    by_cases h2 : (f 280 18).toInt = (8 : Int32).toInt
    · refine fl_Tq.jf rfl (fl_bo rfl) (c2_ne_f h2) rfl ?_
      refine fl_Tq.cI (c := (-1 : Int32)) rfl (by decide +kernel) (fl_bo rfl) ?_
      exact fl_Tq.ret rfl rfl rfl (k1 h1 h2)
    · refine fl_Tq.jt rfl (fl_bo rfl) (c2_ne_t h2) rfl ?_
      refine fl_Tq.stp (pc' := 36) (lv' := [some (.inr (.inr (.inl (76, 277)))), some (.inl a), some (.inl b), some (.inl c), some (.inl d), some (.inl e), none]) (st' := [.inr (.inr (.inl (76, 277)))]) (m' := (f, l)) rfl rfl (fl_bo rfl) rfl ?_
      exact k2 h1 h2
theorem y_rule_B {L : Nat} {xs : Nat → Int32} {f : t2_F} {l : t2_L} {Q : Option fl_V → fl_M → Prop} {a b c d e : Int32} (hz : 0 ≤ (f 280 18).toInt ∧ (f 280 18).toInt ≤ 7) (k : Q (some (.inl ((f 280 18) + (1 : Int32)))) (fl_row f 280 (upd (upd (upd (upd (upd (upd (f 280) (79 + (5 * ((f 280 18).toInt.toNat))) a) ((79 + (5 * ((f 280 18).toInt.toNat))) + 1) (if b.toInt = 0 then (0 : Int32) else (1 : Int32))) ((79 + (5 * ((f 280 18).toInt.toNat))) + 2) c) ((79 + (5 * ((f 280 18).toInt.toNat))) + 3) d) ((79 + (5 * ((f 280 18).toInt.toNat))) + 4) e) 18 ((f 280 18) + (1 : Int32))), l)) : fl_Tq (pw_P L xs) 261 39 [some (.inr (.inr (.inl (76, 277)))), some (.inl a), some (.inl b), some (.inl c), some (.inl d), some (.inl e), none] [] (f, l) Q := by
  refine fl_Tq.cB (c := (79 : Int32)) rfl (by decide +kernel) (fl_bo rfl) ?_
  refine fl_Tq.cI (c := (5 : Int32)) rfl (by decide +kernel) (fl_bo rfl) ?_
  refine fl_Tq.stp (pc' := 43) (lv' := [some (.inr (.inr (.inl (76, 277)))), some (.inl a), some (.inl b), some (.inl c), some (.inl d), some (.inl e), none]) (st' := [.inr (.inr (.inl (76, 277))), .inl (5 : Int32), .inl (79 : Int32)]) (m' := (f, l)) rfl rfl (fl_bo rfl) rfl ?_
  refine fl_Tq.stp (pc' := 46) (lv' := [some (.inr (.inr (.inl (76, 277)))), some (.inl a), some (.inl b), some (.inl c), some (.inl d), some (.inl e), none]) (st' := [.inr (.inr (.inl (79, 280))), .inl (5 : Int32), .inl (79 : Int32)]) (m' := (f, l)) rfl rfl (fl_bo rfl) rfl ?_
  refine fl_Tq.cB (c := (18 : Int32)) rfl (by decide +kernel) (fl_bo rfl) ?_
  refine fl_Tq.ldV (p := 280) (τ := 79) (n := 29780) (z := (0, 0, 0)) (k := 18) (v := f 280 18) rfl (fl_bo rfl) rfl (by decide +kernel) (by decide) rfl ?_
  refine fl_Tq.stp (pc' := 50) (lv' := [some (.inr (.inr (.inl (76, 277)))), some (.inl a), some (.inl b), some (.inl c), some (.inl d), some (.inl e), none]) (st' := [.inl ((5 : Int32) * (f 280 18)), .inl (79 : Int32)]) (m' := (f, l)) rfl rfl (fl_bo rfl) rfl ?_
  refine fl_Tq.stp (pc' := 51) (lv' := [some (.inr (.inr (.inl (76, 277)))), some (.inl a), some (.inl b), some (.inl c), some (.inl d), some (.inl e), none]) (st' := [.inl ((79 : Int32) + ((5 : Int32) * (f 280 18)))]) (m' := (f, l)) rfl rfl (fl_bo rfl) rfl ?_
  refine fl_Tq.stp (pc' := 53) (lv' := [some (.inr (.inr (.inl (76, 277)))), some (.inl a), some (.inl b), some (.inl c), some (.inl d), some (.inl e), some (.inl ((79 : Int32) + ((5 : Int32) * (f 280 18))))]) (st' := []) (m' := (f, l)) rfl rfl (fl_bo rfl) rfl ?_
  refine fl_Tq.stp (pc' := 54) (lv' := [some (.inr (.inr (.inl (76, 277)))), some (.inl a), some (.inl b), some (.inl c), some (.inl d), some (.inl e), some (.inl ((79 : Int32) + ((5 : Int32) * (f 280 18))))]) (st' := [.inr (.inr (.inl (76, 277)))]) (m' := (f, l)) rfl rfl (fl_bo rfl) rfl ?_
  refine fl_Tq.stp (pc' := 57) (lv' := [some (.inr (.inr (.inl (76, 277)))), some (.inl a), some (.inl b), some (.inl c), some (.inl d), some (.inl e), some (.inl ((79 : Int32) + ((5 : Int32) * (f 280 18))))]) (st' := [.inr (.inr (.inl (79, 280)))]) (m' := (f, l)) rfl rfl (fl_bo rfl) rfl ?_
  refine fl_Tq.stp (pc' := 59) (lv' := [some (.inr (.inr (.inl (76, 277)))), some (.inl a), some (.inl b), some (.inl c), some (.inl d), some (.inl e), some (.inl ((79 : Int32) + ((5 : Int32) * (f 280 18))))]) (st' := [.inl ((79 : Int32) + ((5 : Int32) * (f 280 18))), .inr (.inr (.inl (79, 280)))]) (m' := (f, l)) rfl rfl (fl_bo rfl) rfl ?_
  refine fl_Tq.stp (pc' := 60) (lv' := [some (.inr (.inr (.inl (76, 277)))), some (.inl a), some (.inl b), some (.inl c), some (.inl d), some (.inl e), some (.inl ((79 : Int32) + ((5 : Int32) * (f 280 18))))]) (st' := [.inl a, .inl ((79 : Int32) + ((5 : Int32) * (f 280 18))), .inr (.inr (.inl (79, 280)))]) (m' := (f, l)) rfl rfl (fl_bo rfl) rfl ?_
  refine fl_Tq.svV (p := 280) (τ := 79) (n := 29780) (z := (0, 0, 0)) (k := 79 + (5 * ((f 280 18).toInt.toNat))) (m' := (fl_row f 280 (upd (f 280) (79 + (5 * ((f 280 18).toInt.toNat))) a), l)) rfl (fl_bo rfl) rfl (t2_ia (by decide +kernel) (t2_im (by decide +kernel) (t2_nn hz.1) (by omega)) (by omega)) (by omega) (t2_upn rfl) ?_
  refine fl_Tq.stp (pc' := 62) (lv' := [some (.inr (.inr (.inl (76, 277)))), some (.inl a), some (.inl b), some (.inl c), some (.inl d), some (.inl e), some (.inl ((79 : Int32) + ((5 : Int32) * (f 280 18))))]) (st' := [.inr (.inr (.inl (76, 277)))]) (m' := (fl_row f 280 (upd (f 280) (79 + (5 * ((f 280 18).toInt.toNat))) a), l)) rfl rfl (fl_bo rfl) rfl ?_
  refine fl_Tq.stp (pc' := 65) (lv' := [some (.inr (.inr (.inl (76, 277)))), some (.inl a), some (.inl b), some (.inl c), some (.inl d), some (.inl e), some (.inl ((79 : Int32) + ((5 : Int32) * (f 280 18))))]) (st' := [.inr (.inr (.inl (79, 280)))]) (m' := (fl_row f 280 (upd (f 280) (79 + (5 * ((f 280 18).toInt.toNat))) a), l)) rfl rfl (fl_bo rfl) rfl ?_
  refine fl_Tq.stp (pc' := 67) (lv' := [some (.inr (.inr (.inl (76, 277)))), some (.inl a), some (.inl b), some (.inl c), some (.inl d), some (.inl e), some (.inl ((79 : Int32) + ((5 : Int32) * (f 280 18))))]) (st' := [.inl ((79 : Int32) + ((5 : Int32) * (f 280 18))), .inr (.inr (.inl (79, 280)))]) (m' := (fl_row f 280 (upd (f 280) (79 + (5 * ((f 280 18).toInt.toNat))) a), l)) rfl rfl (fl_bo rfl) rfl ?_
  refine fl_Tq.cI (c := (1 : Int32)) rfl (by decide +kernel) (fl_bo rfl) ?_
  refine fl_Tq.stp (pc' := 69) (lv' := [some (.inr (.inr (.inl (76, 277)))), some (.inl a), some (.inl b), some (.inl c), some (.inl d), some (.inl e), some (.inl ((79 : Int32) + ((5 : Int32) * (f 280 18))))]) (st' := [.inl (((79 : Int32) + ((5 : Int32) * (f 280 18))) + (1 : Int32)), .inr (.inr (.inl (79, 280)))]) (m' := (fl_row f 280 (upd (f 280) (79 + (5 * ((f 280 18).toInt.toNat))) a), l)) rfl rfl (fl_bo rfl) rfl ?_
  refine fl_Tq.stp (pc' := 70) (lv' := [some (.inr (.inr (.inl (76, 277)))), some (.inl a), some (.inl b), some (.inl c), some (.inl d), some (.inl e), some (.inl ((79 : Int32) + ((5 : Int32) * (f 280 18))))]) (st' := [.inl b, .inl (((79 : Int32) + ((5 : Int32) * (f 280 18))) + (1 : Int32)), .inr (.inr (.inl (79, 280)))]) (m' := (fl_row f 280 (upd (f 280) (79 + (5 * ((f 280 18).toInt.toNat))) a), l)) rfl rfl (fl_bo rfl) rfl ?_
  have hj180 : fl_Tq (pw_P L xs) 261 78 [some (.inr (.inr (.inl (76, 277)))), some (.inl a), some (.inl b), some (.inl c), some (.inl d), some (.inl e), some (.inl ((79 : Int32) + ((5 : Int32) * (f 280 18))))] [.inl (if b.toInt = 0 then (0 : Int32) else (1 : Int32)), .inl (((79 : Int32) + ((5 : Int32) * (f 280 18))) + (1 : Int32)), .inr (.inr (.inl (79, 280)))] (fl_row f 280 (upd (f 280) (79 + (5 * ((f 280 18).toInt.toNat))) a), l) Q → fl_Tq (pw_P L xs) 261 70 [some (.inr (.inr (.inl (76, 277)))), some (.inl a), some (.inl b), some (.inl c), some (.inl d), some (.inl e), some (.inl ((79 : Int32) + ((5 : Int32) * (f 280 18))))] [.inl b, .inl (((79 : Int32) + ((5 : Int32) * (f 280 18))) + (1 : Int32)), .inr (.inr (.inl (79, 280)))] (fl_row f 280 (upd (f 280) (79 + (5 * ((f 280 18).toInt.toNat))) a), l) Q := by
    intro hJ
    by_cases h1 : b.toInt = 0
    · refine fl_Tq.zt rfl (fl_bo rfl) (c1_eq_t h1) rfl ?_
      refine fl_Tq.cI (c := (0 : Int32)) rfl (by decide +kernel) (fl_bo rfl) ?_
      have e0 : (if b.toInt = 0 then (0 : Int32) else (1 : Int32)) = (0 : Int32) := by simp only [if_pos h1]
      rw [e0] at hJ
      exact hJ
    · refine fl_Tq.zf rfl (fl_bo rfl) (c1_eq_f h1) rfl ?_
      refine fl_Tq.cI (c := (1 : Int32)) rfl (by decide +kernel) (fl_bo rfl) ?_
      refine fl_Tq.stp (pc' := 78) (lv' := [some (.inr (.inr (.inl (76, 277)))), some (.inl a), some (.inl b), some (.inl c), some (.inl d), some (.inl e), some (.inl ((79 : Int32) + ((5 : Int32) * (f 280 18))))]) (st' := [.inl (1 : Int32), .inl (((79 : Int32) + ((5 : Int32) * (f 280 18))) + (1 : Int32)), .inr (.inr (.inl (79, 280)))]) (m' := (fl_row f 280 (upd (f 280) (79 + (5 * ((f 280 18).toInt.toNat))) a), l)) rfl rfl (fl_bo rfl) rfl ?_
      have e0 : (if b.toInt = 0 then (0 : Int32) else (1 : Int32)) = (1 : Int32) := by simp only [if_neg h1]
      rw [e0] at hJ
      exact hJ
  refine hj180 ?_
  show fl_Tq _ 261 78 [some (.inr (.inr (.inl (76, 277)))), some (.inl a), some (.inl b), some (.inl c), some (.inl d), some (.inl e), some (.inl ((79 : Int32) + ((5 : Int32) * (f 280 18))))] [.inl (if b.toInt = 0 then (0 : Int32) else (1 : Int32)), .inl (((79 : Int32) + ((5 : Int32) * (f 280 18))) + (1 : Int32)), .inr (.inr (.inl (79, 280)))] (fl_row f 280 (upd (f 280) (79 + (5 * ((f 280 18).toInt.toNat))) a), l) _
  refine fl_Tq.svV (p := 280) (τ := 79) (n := 29780) (z := (0, 0, 0)) (k := (79 + (5 * ((f 280 18).toInt.toNat))) + 1) (m' := (fl_row f 280 (upd (upd (f 280) (79 + (5 * ((f 280 18).toInt.toNat))) a) ((79 + (5 * ((f 280 18).toInt.toNat))) + 1) (if b.toInt = 0 then (0 : Int32) else (1 : Int32))), l)) rfl (fl_bo rfl) rfl (t2_ia (t2_ia (by decide +kernel) (t2_im (by decide +kernel) (t2_nn hz.1) (by omega)) (by omega)) (by decide +kernel) (by omega)) (by omega) (t2_upr) ?_
  refine fl_Tq.stp (pc' := 80) (lv' := [some (.inr (.inr (.inl (76, 277)))), some (.inl a), some (.inl b), some (.inl c), some (.inl d), some (.inl e), some (.inl ((79 : Int32) + ((5 : Int32) * (f 280 18))))]) (st' := [.inr (.inr (.inl (76, 277)))]) (m' := (fl_row f 280 (upd (upd (f 280) (79 + (5 * ((f 280 18).toInt.toNat))) a) ((79 + (5 * ((f 280 18).toInt.toNat))) + 1) (if b.toInt = 0 then (0 : Int32) else (1 : Int32))), l)) rfl rfl (fl_bo rfl) rfl ?_
  refine fl_Tq.stp (pc' := 83) (lv' := [some (.inr (.inr (.inl (76, 277)))), some (.inl a), some (.inl b), some (.inl c), some (.inl d), some (.inl e), some (.inl ((79 : Int32) + ((5 : Int32) * (f 280 18))))]) (st' := [.inr (.inr (.inl (79, 280)))]) (m' := (fl_row f 280 (upd (upd (f 280) (79 + (5 * ((f 280 18).toInt.toNat))) a) ((79 + (5 * ((f 280 18).toInt.toNat))) + 1) (if b.toInt = 0 then (0 : Int32) else (1 : Int32))), l)) rfl rfl (fl_bo rfl) rfl ?_
  refine fl_Tq.stp (pc' := 85) (lv' := [some (.inr (.inr (.inl (76, 277)))), some (.inl a), some (.inl b), some (.inl c), some (.inl d), some (.inl e), some (.inl ((79 : Int32) + ((5 : Int32) * (f 280 18))))]) (st' := [.inl ((79 : Int32) + ((5 : Int32) * (f 280 18))), .inr (.inr (.inl (79, 280)))]) (m' := (fl_row f 280 (upd (upd (f 280) (79 + (5 * ((f 280 18).toInt.toNat))) a) ((79 + (5 * ((f 280 18).toInt.toNat))) + 1) (if b.toInt = 0 then (0 : Int32) else (1 : Int32))), l)) rfl rfl (fl_bo rfl) rfl ?_
  refine fl_Tq.cI (c := (2 : Int32)) rfl (by decide +kernel) (fl_bo rfl) ?_
  refine fl_Tq.stp (pc' := 87) (lv' := [some (.inr (.inr (.inl (76, 277)))), some (.inl a), some (.inl b), some (.inl c), some (.inl d), some (.inl e), some (.inl ((79 : Int32) + ((5 : Int32) * (f 280 18))))]) (st' := [.inl (((79 : Int32) + ((5 : Int32) * (f 280 18))) + (2 : Int32)), .inr (.inr (.inl (79, 280)))]) (m' := (fl_row f 280 (upd (upd (f 280) (79 + (5 * ((f 280 18).toInt.toNat))) a) ((79 + (5 * ((f 280 18).toInt.toNat))) + 1) (if b.toInt = 0 then (0 : Int32) else (1 : Int32))), l)) rfl rfl (fl_bo rfl) rfl ?_
  refine fl_Tq.stp (pc' := 88) (lv' := [some (.inr (.inr (.inl (76, 277)))), some (.inl a), some (.inl b), some (.inl c), some (.inl d), some (.inl e), some (.inl ((79 : Int32) + ((5 : Int32) * (f 280 18))))]) (st' := [.inl c, .inl (((79 : Int32) + ((5 : Int32) * (f 280 18))) + (2 : Int32)), .inr (.inr (.inl (79, 280)))]) (m' := (fl_row f 280 (upd (upd (f 280) (79 + (5 * ((f 280 18).toInt.toNat))) a) ((79 + (5 * ((f 280 18).toInt.toNat))) + 1) (if b.toInt = 0 then (0 : Int32) else (1 : Int32))), l)) rfl rfl (fl_bo rfl) rfl ?_
  refine fl_Tq.svV (p := 280) (τ := 79) (n := 29780) (z := (0, 0, 0)) (k := (79 + (5 * ((f 280 18).toInt.toNat))) + 2) (m' := (fl_row f 280 (upd (upd (upd (f 280) (79 + (5 * ((f 280 18).toInt.toNat))) a) ((79 + (5 * ((f 280 18).toInt.toNat))) + 1) (if b.toInt = 0 then (0 : Int32) else (1 : Int32))) ((79 + (5 * ((f 280 18).toInt.toNat))) + 2) c), l)) rfl (fl_bo rfl) rfl (t2_ia (t2_ia (by decide +kernel) (t2_im (by decide +kernel) (t2_nn hz.1) (by omega)) (by omega)) (by decide +kernel) (by omega)) (by omega) (t2_upr) ?_
  refine fl_Tq.stp (pc' := 90) (lv' := [some (.inr (.inr (.inl (76, 277)))), some (.inl a), some (.inl b), some (.inl c), some (.inl d), some (.inl e), some (.inl ((79 : Int32) + ((5 : Int32) * (f 280 18))))]) (st' := [.inr (.inr (.inl (76, 277)))]) (m' := (fl_row f 280 (upd (upd (upd (f 280) (79 + (5 * ((f 280 18).toInt.toNat))) a) ((79 + (5 * ((f 280 18).toInt.toNat))) + 1) (if b.toInt = 0 then (0 : Int32) else (1 : Int32))) ((79 + (5 * ((f 280 18).toInt.toNat))) + 2) c), l)) rfl rfl (fl_bo rfl) rfl ?_
  refine fl_Tq.stp (pc' := 93) (lv' := [some (.inr (.inr (.inl (76, 277)))), some (.inl a), some (.inl b), some (.inl c), some (.inl d), some (.inl e), some (.inl ((79 : Int32) + ((5 : Int32) * (f 280 18))))]) (st' := [.inr (.inr (.inl (79, 280)))]) (m' := (fl_row f 280 (upd (upd (upd (f 280) (79 + (5 * ((f 280 18).toInt.toNat))) a) ((79 + (5 * ((f 280 18).toInt.toNat))) + 1) (if b.toInt = 0 then (0 : Int32) else (1 : Int32))) ((79 + (5 * ((f 280 18).toInt.toNat))) + 2) c), l)) rfl rfl (fl_bo rfl) rfl ?_
  refine fl_Tq.stp (pc' := 95) (lv' := [some (.inr (.inr (.inl (76, 277)))), some (.inl a), some (.inl b), some (.inl c), some (.inl d), some (.inl e), some (.inl ((79 : Int32) + ((5 : Int32) * (f 280 18))))]) (st' := [.inl ((79 : Int32) + ((5 : Int32) * (f 280 18))), .inr (.inr (.inl (79, 280)))]) (m' := (fl_row f 280 (upd (upd (upd (f 280) (79 + (5 * ((f 280 18).toInt.toNat))) a) ((79 + (5 * ((f 280 18).toInt.toNat))) + 1) (if b.toInt = 0 then (0 : Int32) else (1 : Int32))) ((79 + (5 * ((f 280 18).toInt.toNat))) + 2) c), l)) rfl rfl (fl_bo rfl) rfl ?_
  refine fl_Tq.cI (c := (3 : Int32)) rfl (by decide +kernel) (fl_bo rfl) ?_
  refine fl_Tq.stp (pc' := 97) (lv' := [some (.inr (.inr (.inl (76, 277)))), some (.inl a), some (.inl b), some (.inl c), some (.inl d), some (.inl e), some (.inl ((79 : Int32) + ((5 : Int32) * (f 280 18))))]) (st' := [.inl (((79 : Int32) + ((5 : Int32) * (f 280 18))) + (3 : Int32)), .inr (.inr (.inl (79, 280)))]) (m' := (fl_row f 280 (upd (upd (upd (f 280) (79 + (5 * ((f 280 18).toInt.toNat))) a) ((79 + (5 * ((f 280 18).toInt.toNat))) + 1) (if b.toInt = 0 then (0 : Int32) else (1 : Int32))) ((79 + (5 * ((f 280 18).toInt.toNat))) + 2) c), l)) rfl rfl (fl_bo rfl) rfl ?_
  refine fl_Tq.stp (pc' := 99) (lv' := [some (.inr (.inr (.inl (76, 277)))), some (.inl a), some (.inl b), some (.inl c), some (.inl d), some (.inl e), some (.inl ((79 : Int32) + ((5 : Int32) * (f 280 18))))]) (st' := [.inl d, .inl (((79 : Int32) + ((5 : Int32) * (f 280 18))) + (3 : Int32)), .inr (.inr (.inl (79, 280)))]) (m' := (fl_row f 280 (upd (upd (upd (f 280) (79 + (5 * ((f 280 18).toInt.toNat))) a) ((79 + (5 * ((f 280 18).toInt.toNat))) + 1) (if b.toInt = 0 then (0 : Int32) else (1 : Int32))) ((79 + (5 * ((f 280 18).toInt.toNat))) + 2) c), l)) rfl rfl (fl_bo rfl) rfl ?_
  refine fl_Tq.svV (p := 280) (τ := 79) (n := 29780) (z := (0, 0, 0)) (k := (79 + (5 * ((f 280 18).toInt.toNat))) + 3) (m' := (fl_row f 280 (upd (upd (upd (upd (f 280) (79 + (5 * ((f 280 18).toInt.toNat))) a) ((79 + (5 * ((f 280 18).toInt.toNat))) + 1) (if b.toInt = 0 then (0 : Int32) else (1 : Int32))) ((79 + (5 * ((f 280 18).toInt.toNat))) + 2) c) ((79 + (5 * ((f 280 18).toInt.toNat))) + 3) d), l)) rfl (fl_bo rfl) rfl (t2_ia (t2_ia (by decide +kernel) (t2_im (by decide +kernel) (t2_nn hz.1) (by omega)) (by omega)) (by decide +kernel) (by omega)) (by omega) (t2_upr) ?_
  refine fl_Tq.stp (pc' := 101) (lv' := [some (.inr (.inr (.inl (76, 277)))), some (.inl a), some (.inl b), some (.inl c), some (.inl d), some (.inl e), some (.inl ((79 : Int32) + ((5 : Int32) * (f 280 18))))]) (st' := [.inr (.inr (.inl (76, 277)))]) (m' := (fl_row f 280 (upd (upd (upd (upd (f 280) (79 + (5 * ((f 280 18).toInt.toNat))) a) ((79 + (5 * ((f 280 18).toInt.toNat))) + 1) (if b.toInt = 0 then (0 : Int32) else (1 : Int32))) ((79 + (5 * ((f 280 18).toInt.toNat))) + 2) c) ((79 + (5 * ((f 280 18).toInt.toNat))) + 3) d), l)) rfl rfl (fl_bo rfl) rfl ?_
  refine fl_Tq.stp (pc' := 104) (lv' := [some (.inr (.inr (.inl (76, 277)))), some (.inl a), some (.inl b), some (.inl c), some (.inl d), some (.inl e), some (.inl ((79 : Int32) + ((5 : Int32) * (f 280 18))))]) (st' := [.inr (.inr (.inl (79, 280)))]) (m' := (fl_row f 280 (upd (upd (upd (upd (f 280) (79 + (5 * ((f 280 18).toInt.toNat))) a) ((79 + (5 * ((f 280 18).toInt.toNat))) + 1) (if b.toInt = 0 then (0 : Int32) else (1 : Int32))) ((79 + (5 * ((f 280 18).toInt.toNat))) + 2) c) ((79 + (5 * ((f 280 18).toInt.toNat))) + 3) d), l)) rfl rfl (fl_bo rfl) rfl ?_
  refine fl_Tq.stp (pc' := 106) (lv' := [some (.inr (.inr (.inl (76, 277)))), some (.inl a), some (.inl b), some (.inl c), some (.inl d), some (.inl e), some (.inl ((79 : Int32) + ((5 : Int32) * (f 280 18))))]) (st' := [.inl ((79 : Int32) + ((5 : Int32) * (f 280 18))), .inr (.inr (.inl (79, 280)))]) (m' := (fl_row f 280 (upd (upd (upd (upd (f 280) (79 + (5 * ((f 280 18).toInt.toNat))) a) ((79 + (5 * ((f 280 18).toInt.toNat))) + 1) (if b.toInt = 0 then (0 : Int32) else (1 : Int32))) ((79 + (5 * ((f 280 18).toInt.toNat))) + 2) c) ((79 + (5 * ((f 280 18).toInt.toNat))) + 3) d), l)) rfl rfl (fl_bo rfl) rfl ?_
  refine fl_Tq.cI (c := (4 : Int32)) rfl (by decide +kernel) (fl_bo rfl) ?_
  refine fl_Tq.stp (pc' := 108) (lv' := [some (.inr (.inr (.inl (76, 277)))), some (.inl a), some (.inl b), some (.inl c), some (.inl d), some (.inl e), some (.inl ((79 : Int32) + ((5 : Int32) * (f 280 18))))]) (st' := [.inl (((79 : Int32) + ((5 : Int32) * (f 280 18))) + (4 : Int32)), .inr (.inr (.inl (79, 280)))]) (m' := (fl_row f 280 (upd (upd (upd (upd (f 280) (79 + (5 * ((f 280 18).toInt.toNat))) a) ((79 + (5 * ((f 280 18).toInt.toNat))) + 1) (if b.toInt = 0 then (0 : Int32) else (1 : Int32))) ((79 + (5 * ((f 280 18).toInt.toNat))) + 2) c) ((79 + (5 * ((f 280 18).toInt.toNat))) + 3) d), l)) rfl rfl (fl_bo rfl) rfl ?_
  refine fl_Tq.stp (pc' := 110) (lv' := [some (.inr (.inr (.inl (76, 277)))), some (.inl a), some (.inl b), some (.inl c), some (.inl d), some (.inl e), some (.inl ((79 : Int32) + ((5 : Int32) * (f 280 18))))]) (st' := [.inl e, .inl (((79 : Int32) + ((5 : Int32) * (f 280 18))) + (4 : Int32)), .inr (.inr (.inl (79, 280)))]) (m' := (fl_row f 280 (upd (upd (upd (upd (f 280) (79 + (5 * ((f 280 18).toInt.toNat))) a) ((79 + (5 * ((f 280 18).toInt.toNat))) + 1) (if b.toInt = 0 then (0 : Int32) else (1 : Int32))) ((79 + (5 * ((f 280 18).toInt.toNat))) + 2) c) ((79 + (5 * ((f 280 18).toInt.toNat))) + 3) d), l)) rfl rfl (fl_bo rfl) rfl ?_
  refine fl_Tq.svV (p := 280) (τ := 79) (n := 29780) (z := (0, 0, 0)) (k := (79 + (5 * ((f 280 18).toInt.toNat))) + 4) (m' := (fl_row f 280 (upd (upd (upd (upd (upd (f 280) (79 + (5 * ((f 280 18).toInt.toNat))) a) ((79 + (5 * ((f 280 18).toInt.toNat))) + 1) (if b.toInt = 0 then (0 : Int32) else (1 : Int32))) ((79 + (5 * ((f 280 18).toInt.toNat))) + 2) c) ((79 + (5 * ((f 280 18).toInt.toNat))) + 3) d) ((79 + (5 * ((f 280 18).toInt.toNat))) + 4) e), l)) rfl (fl_bo rfl) rfl (t2_ia (t2_ia (by decide +kernel) (t2_im (by decide +kernel) (t2_nn hz.1) (by omega)) (by omega)) (by decide +kernel) (by omega)) (by omega) (t2_upr) ?_
  refine fl_Tq.stp (pc' := 112) (lv' := [some (.inr (.inr (.inl (76, 277)))), some (.inl a), some (.inl b), some (.inl c), some (.inl d), some (.inl e), some (.inl ((79 : Int32) + ((5 : Int32) * (f 280 18))))]) (st' := [.inr (.inr (.inl (76, 277)))]) (m' := (fl_row f 280 (upd (upd (upd (upd (upd (f 280) (79 + (5 * ((f 280 18).toInt.toNat))) a) ((79 + (5 * ((f 280 18).toInt.toNat))) + 1) (if b.toInt = 0 then (0 : Int32) else (1 : Int32))) ((79 + (5 * ((f 280 18).toInt.toNat))) + 2) c) ((79 + (5 * ((f 280 18).toInt.toNat))) + 3) d) ((79 + (5 * ((f 280 18).toInt.toNat))) + 4) e), l)) rfl rfl (fl_bo rfl) rfl ?_
  refine fl_Tq.stp (pc' := 115) (lv' := [some (.inr (.inr (.inl (76, 277)))), some (.inl a), some (.inl b), some (.inl c), some (.inl d), some (.inl e), some (.inl ((79 : Int32) + ((5 : Int32) * (f 280 18))))]) (st' := [.inr (.inr (.inl (79, 280)))]) (m' := (fl_row f 280 (upd (upd (upd (upd (upd (f 280) (79 + (5 * ((f 280 18).toInt.toNat))) a) ((79 + (5 * ((f 280 18).toInt.toNat))) + 1) (if b.toInt = 0 then (0 : Int32) else (1 : Int32))) ((79 + (5 * ((f 280 18).toInt.toNat))) + 2) c) ((79 + (5 * ((f 280 18).toInt.toNat))) + 3) d) ((79 + (5 * ((f 280 18).toInt.toNat))) + 4) e), l)) rfl rfl (fl_bo rfl) rfl ?_
  refine fl_Tq.cB (c := (18 : Int32)) rfl (by decide +kernel) (fl_bo rfl) ?_
  refine fl_Tq.stp (pc' := 118) (lv' := [some (.inr (.inr (.inl (76, 277)))), some (.inl a), some (.inl b), some (.inl c), some (.inl d), some (.inl e), some (.inl ((79 : Int32) + ((5 : Int32) * (f 280 18))))]) (st' := [.inl (18 : Int32), .inr (.inr (.inl (79, 280))), .inl (18 : Int32), .inr (.inr (.inl (79, 280)))]) (m' := (fl_row f 280 (upd (upd (upd (upd (upd (f 280) (79 + (5 * ((f 280 18).toInt.toNat))) a) ((79 + (5 * ((f 280 18).toInt.toNat))) + 1) (if b.toInt = 0 then (0 : Int32) else (1 : Int32))) ((79 + (5 * ((f 280 18).toInt.toNat))) + 2) c) ((79 + (5 * ((f 280 18).toInt.toNat))) + 3) d) ((79 + (5 * ((f 280 18).toInt.toNat))) + 4) e), l)) rfl rfl (fl_bo rfl) rfl ?_
  refine fl_Tq.ldV (p := 280) (τ := 79) (n := 29780) (z := (0, 0, 0)) (k := 18) (v := f 280 18) rfl (fl_bo rfl) rfl (by decide +kernel) (by decide) (by simp only [fl_row_self, upd_ne (by omega : 18 ≠ (79 + (5 * ((f 280 18).toInt.toNat))) + 4), upd_ne (by omega : 18 ≠ (79 + (5 * ((f 280 18).toInt.toNat))) + 3), upd_ne (by omega : 18 ≠ (79 + (5 * ((f 280 18).toInt.toNat))) + 2), upd_ne (by omega : 18 ≠ (79 + (5 * ((f 280 18).toInt.toNat))) + 1), upd_ne (by omega : 18 ≠ 79 + (5 * ((f 280 18).toInt.toNat)))]) ?_
  refine fl_Tq.cI (c := (1 : Int32)) rfl (by decide +kernel) (fl_bo rfl) ?_
  refine fl_Tq.stp (pc' := 121) (lv' := [some (.inr (.inr (.inl (76, 277)))), some (.inl a), some (.inl b), some (.inl c), some (.inl d), some (.inl e), some (.inl ((79 : Int32) + ((5 : Int32) * (f 280 18))))]) (st' := [.inl ((f 280 18) + (1 : Int32)), .inl (18 : Int32), .inr (.inr (.inl (79, 280)))]) (m' := (fl_row f 280 (upd (upd (upd (upd (upd (f 280) (79 + (5 * ((f 280 18).toInt.toNat))) a) ((79 + (5 * ((f 280 18).toInt.toNat))) + 1) (if b.toInt = 0 then (0 : Int32) else (1 : Int32))) ((79 + (5 * ((f 280 18).toInt.toNat))) + 2) c) ((79 + (5 * ((f 280 18).toInt.toNat))) + 3) d) ((79 + (5 * ((f 280 18).toInt.toNat))) + 4) e), l)) rfl rfl (fl_bo rfl) rfl ?_
  refine fl_Tq.svV (p := 280) (τ := 79) (n := 29780) (z := (0, 0, 0)) (k := 18) (m' := (fl_row f 280 (upd (upd (upd (upd (upd (upd (f 280) (79 + (5 * ((f 280 18).toInt.toNat))) a) ((79 + (5 * ((f 280 18).toInt.toNat))) + 1) (if b.toInt = 0 then (0 : Int32) else (1 : Int32))) ((79 + (5 * ((f 280 18).toInt.toNat))) + 2) c) ((79 + (5 * ((f 280 18).toInt.toNat))) + 3) d) ((79 + (5 * ((f 280 18).toInt.toNat))) + 4) e) 18 ((f 280 18) + (1 : Int32))), l)) rfl (fl_bo rfl) rfl (by decide +kernel) (by decide) (t2_upr) ?_
  refine fl_Tq.stp (pc' := 123) (lv' := [some (.inr (.inr (.inl (76, 277)))), some (.inl a), some (.inl b), some (.inl c), some (.inl d), some (.inl e), some (.inl ((79 : Int32) + ((5 : Int32) * (f 280 18))))]) (st' := [.inr (.inr (.inl (76, 277)))]) (m' := (fl_row f 280 (upd (upd (upd (upd (upd (upd (f 280) (79 + (5 * ((f 280 18).toInt.toNat))) a) ((79 + (5 * ((f 280 18).toInt.toNat))) + 1) (if b.toInt = 0 then (0 : Int32) else (1 : Int32))) ((79 + (5 * ((f 280 18).toInt.toNat))) + 2) c) ((79 + (5 * ((f 280 18).toInt.toNat))) + 3) d) ((79 + (5 * ((f 280 18).toInt.toNat))) + 4) e) 18 ((f 280 18) + (1 : Int32))), l)) rfl rfl (fl_bo rfl) rfl ?_
  refine fl_Tq.stp (pc' := 126) (lv' := [some (.inr (.inr (.inl (76, 277)))), some (.inl a), some (.inl b), some (.inl c), some (.inl d), some (.inl e), some (.inl ((79 : Int32) + ((5 : Int32) * (f 280 18))))]) (st' := [.inr (.inr (.inl (79, 280)))]) (m' := (fl_row f 280 (upd (upd (upd (upd (upd (upd (f 280) (79 + (5 * ((f 280 18).toInt.toNat))) a) ((79 + (5 * ((f 280 18).toInt.toNat))) + 1) (if b.toInt = 0 then (0 : Int32) else (1 : Int32))) ((79 + (5 * ((f 280 18).toInt.toNat))) + 2) c) ((79 + (5 * ((f 280 18).toInt.toNat))) + 3) d) ((79 + (5 * ((f 280 18).toInt.toNat))) + 4) e) 18 ((f 280 18) + (1 : Int32))), l)) rfl rfl (fl_bo rfl) rfl ?_
  refine fl_Tq.cB (c := (18 : Int32)) rfl (by decide +kernel) (fl_bo rfl) ?_
  refine fl_Tq.ldV (p := 280) (τ := 79) (n := 29780) (z := (0, 0, 0)) (k := 18) (v := (f 280 18) + (1 : Int32)) rfl (fl_bo rfl) rfl (by decide +kernel) (by decide) (by simp only [fl_row_self, upd_self]) ?_
  exact fl_Tq.ret rfl rfl rfl k
theorem y_unrule_A {L : Nat} {xs : Nat → Int32} {f : t2_F} {l : t2_L} {Q : Option fl_V → fl_M → Prop}   (k : fl_Tq (pw_P L xs) 263 7 [some (.inr (.inr (.inl (76, 277))))] [.inl (119 : Int32), .inl (79 : Int32), .inl (18 : Int32), .inr (.inr (.inl (76, 277)))] (f, l) Q) : fl_Tq (pw_P L xs) 263 0 [some (.inr (.inr (.inl (76, 277))))] [] (f, l) Q := by
  refine fl_Tq.stp (pc' := 1) (lv' := [some (.inr (.inr (.inl (76, 277))))]) (st' := [.inr (.inr (.inl (76, 277)))]) (m' := (f, l)) rfl rfl (fl_bo rfl) rfl ?_
  refine fl_Tq.cB (c := (18 : Int32)) rfl (by decide +kernel) (fl_bo rfl) ?_
  refine fl_Tq.cB (c := (79 : Int32)) rfl (by decide +kernel) (fl_bo rfl) ?_
  refine fl_Tq.cB (c := (119 : Int32)) rfl (by decide +kernel) (fl_bo rfl) ?_
  exact k
theorem y_wipe_A {L : Nat} {xs : Nat → Int32} {f : t2_F} {l : t2_L} {Q : Option fl_V → fl_M → Prop}   (k : fl_Tq (pw_P L xs) 264 8 [some (.inr (.inr (.inl (76, 277))))] [.inl (167 : Int32), .inl (119 : Int32), .inl (19 : Int32), .inr (.inr (.inl (76, 277)))] (f, l) Q) : fl_Tq (pw_P L xs) 264 0 [some (.inr (.inr (.inl (76, 277))))] [] (f, l) Q := by
  refine fl_Tq.stp (pc' := 1) (lv' := [some (.inr (.inr (.inl (76, 277))))]) (st' := [.inr (.inr (.inl (76, 277)))]) (m' := (f, l)) rfl rfl (fl_bo rfl) rfl ?_
  refine fl_Tq.cB (c := (19 : Int32)) rfl (by decide +kernel) (fl_bo rfl) ?_
  refine fl_Tq.cB (c := (119 : Int32)) rfl (by decide +kernel) (fl_bo rfl) ?_
  refine fl_Tq.cS (c := (167 : Int32)) rfl (by decide +kernel) (fl_bo rfl) ?_
  exact k
theorem y_clear_A {L : Nat} {xs : Nat → Int32} {f : t2_F} {l : t2_L} {Q : Option fl_V → fl_M → Prop} {a b c : Int32}  (k : fl_Tq (pw_P L xs) 262 1 [some (.inr (.inr (.inl (76, 277)))), some (.inl a), some (.inl b), some (.inl c), none, none] [.inr (.inr (.inl (76, 277)))] (f, l) Q) : fl_Tq (pw_P L xs) 262 0 [some (.inr (.inr (.inl (76, 277)))), some (.inl a), some (.inl b), some (.inl c), none, none] [] (f, l) Q := by
  refine fl_Tq.stp (pc' := 1) (lv' := [some (.inr (.inr (.inl (76, 277)))), some (.inl a), some (.inl b), some (.inl c), none, none]) (st' := [.inr (.inr (.inl (76, 277)))]) (m' := (f, l)) rfl rfl (fl_bo rfl) rfl ?_
  exact k
theorem y_run_A {L : Nat} {xs : Nat → Int32} {f : t2_F} {l : t2_L} {Q : Option fl_V → fl_M → Prop} {a : Int32}  (k : ((r_isIn_v a (1 : Int32) (300 : Int32)).toInt = 0) → Q (some (.inl (-1 : Int32))) (f, l)) (k1 : (¬ ((r_isIn_v a (1 : Int32) (300 : Int32)).toInt = 0)) → ((9999 : Int32).toInt < ((f 280 7) + a).toInt) → Q (some (.inl (-1 : Int32))) (f, l)) (k2 : (¬ ((r_isIn_v a (1 : Int32) (300 : Int32)).toInt = 0)) → (¬ ((9999 : Int32).toInt < ((f 280 7) + a).toInt)) → fl_Tq (pw_P L xs) 250 14 [some (.inr (.inr (.inl (76, 277)))), some (.inl a)] [.inr (.inr (.inl (76, 277)))] (f, l) Q) : fl_Tq (pw_P L xs) 250 0 [some (.inr (.inr (.inl (76, 277)))), some (.inl a)] [] (f, l) Q := by
  refine fl_Tq.stp (pc' := 1) (lv' := [some (.inr (.inr (.inl (76, 277)))), some (.inl a)]) (st' := [.inr (.inr (.inl (76, 277)))]) (m' := (f, l)) rfl rfl (fl_bo rfl) rfl ?_
  refine fl_Tq.stp (pc' := 2) (lv' := [some (.inr (.inr (.inl (76, 277)))), some (.inl a)]) (st' := [.inl a, .inr (.inr (.inl (76, 277)))]) (m' := (f, l)) rfl rfl (fl_bo rfl) rfl ?_
  refine fl_Tq.cS (c := (300 : Int32)) rfl (by decide +kernel) (fl_bo rfl) ?_
  refine fl_Tq.cal rfl rfl (fl_bo rfl) rfl ?_
  refine fl_Tq.stp (pc' := 1) (lv' := [some (.inr (.inr (.inl (76, 277)))), some (.inl a), some (.inl (300 : Int32))]) (st' := [.inl a]) (m' := (f, l)) rfl rfl (fl_bo rfl) rfl ?_
  refine fl_Tq.cI (c := (1 : Int32)) rfl (by decide +kernel) (fl_bo rfl) ?_
  refine fl_Tq.stp (pc' := 3) (lv' := [some (.inr (.inr (.inl (76, 277)))), some (.inl a), some (.inl (300 : Int32))]) (st' := [.inl (300 : Int32), .inl (1 : Int32), .inl a]) (m' := (f, l)) rfl rfl (fl_bo rfl) rfl ?_
  refine fl_Tq.cal rfl rfl (fl_bo rfl) rfl ?_
  refine r_isIn_q  ?_
  show fl_Tq _ 249 6 [some (.inr (.inr (.inl (76, 277)))), some (.inl a), some (.inl (300 : Int32))] [.inl (r_isIn_v a (1 : Int32) (300 : Int32))] (f, l) _
  by_cases h1 : (r_isIn_v a (1 : Int32) (300 : Int32)).toInt = 0
  · refine fl_Tq.zt rfl (fl_bo rfl) (c1_eq_t h1) rfl ?_
    refine fl_Tq.cI (c := (0 : Int32)) rfl (by decide +kernel) (fl_bo rfl) ?_
    refine fl_Tq.ret rfl rfl rfl ?_
    show fl_Tq _ 250 8 [some (.inr (.inr (.inl (76, 277)))), some (.inl a)] [.inl (0 : Int32)] (f, l) _
    refine fl_Tq.zf rfl (fl_bo rfl) (c1_ne_f (by decide +kernel)) rfl ?_
    refine fl_Tq.cI (c := (-1 : Int32)) rfl (by decide +kernel) (fl_bo rfl) ?_
    exact fl_Tq.ret rfl rfl rfl (k h1)
  · refine fl_Tq.zf rfl (fl_bo rfl) (c1_eq_f h1) rfl ?_
    refine fl_Tq.stp (pc' := 10) (lv' := [some (.inr (.inr (.inl (76, 277)))), some (.inl a), some (.inl (300 : Int32))]) (st' := [.inr (.inr (.inl (76, 277)))]) (m' := (f, l)) rfl rfl (fl_bo rfl) rfl ?_
    refine fl_Tq.stp (pc' := 13) (lv' := [some (.inr (.inr (.inl (76, 277)))), some (.inl a), some (.inl (300 : Int32))]) (st' := [.inr (.inr (.inl (79, 280)))]) (m' := (f, l)) rfl rfl (fl_bo rfl) rfl ?_
    refine fl_Tq.cB (c := (7 : Int32)) rfl (by decide +kernel) (fl_bo rfl) ?_
    refine fl_Tq.ldV (p := 280) (τ := 79) (n := 29780) (z := (0, 0, 0)) (k := 7) (v := f 280 7) rfl (fl_bo rfl) rfl (by decide +kernel) (by decide) rfl ?_
    refine fl_Tq.stp (pc' := 17) (lv' := [some (.inr (.inr (.inl (76, 277)))), some (.inl a), some (.inl (300 : Int32))]) (st' := [.inl a, .inl (f 280 7)]) (m' := (f, l)) rfl rfl (fl_bo rfl) rfl ?_
    refine fl_Tq.stp (pc' := 18) (lv' := [some (.inr (.inr (.inl (76, 277)))), some (.inl a), some (.inl (300 : Int32))]) (st' := [.inl ((f 280 7) + a)]) (m' := (f, l)) rfl rfl (fl_bo rfl) rfl ?_
    refine fl_Tq.cS (c := (9999 : Int32)) rfl (by decide +kernel) (fl_bo rfl) ?_
    by_cases h2 : (9999 : Int32).toInt < ((f 280 7) + a).toInt
    · refine fl_Tq.jt rfl (fl_bo rfl) (c2_gt_t h2) rfl ?_
      refine fl_Tq.cI (c := (0 : Int32)) rfl (by decide +kernel) (fl_bo rfl) ?_
      refine fl_Tq.ret rfl rfl rfl ?_
      show fl_Tq _ 250 8 [some (.inr (.inr (.inl (76, 277)))), some (.inl a)] [.inl (0 : Int32)] (f, l) _
      refine fl_Tq.zf rfl (fl_bo rfl) (c1_ne_f (by decide +kernel)) rfl ?_
      refine fl_Tq.cI (c := (-1 : Int32)) rfl (by decide +kernel) (fl_bo rfl) ?_
      exact fl_Tq.ret rfl rfl rfl (k1 h1 h2)
    · refine fl_Tq.jf rfl (fl_bo rfl) (c2_gt_f h2) rfl ?_
      refine fl_Tq.cI (c := (1 : Int32)) rfl (by decide +kernel) (fl_bo rfl) ?_
      refine fl_Tq.stp (pc' := 29) (lv' := [some (.inr (.inr (.inl (76, 277)))), some (.inl a), some (.inl (300 : Int32))]) (st' := [.inl (1 : Int32)]) (m' := (f, l)) rfl rfl (fl_bo rfl) rfl ?_
      refine fl_Tq.ret rfl rfl rfl ?_
      show fl_Tq _ 250 8 [some (.inr (.inr (.inl (76, 277)))), some (.inl a)] [.inl (1 : Int32)] (f, l) _
      refine fl_Tq.zt rfl (fl_bo rfl) (c1_ne_t (by decide +kernel)) rfl ?_
      refine fl_Tq.stp (pc' := 14) (lv' := [some (.inr (.inr (.inl (76, 277)))), some (.inl a)]) (st' := [.inr (.inr (.inl (76, 277)))]) (m' := (f, l)) rfl rfl (fl_bo rfl) rfl ?_
      exact k2 h1 h2
theorem y_run_B {L : Nat} {xs : Nat → Int32} {f : t2_F} {l : t2_L} {Q : Option fl_V → fl_M → Prop} {a : Int32}  (k : fl_Tq (pw_P L xs) 250 19 [some (.inr (.inr (.inl (76, 277)))), some (.inl a)] [.inl a, .inr (.inr (.inl (76, 277)))] (f, l) Q) : fl_Tq (pw_P L xs) 250 17 [some (.inr (.inr (.inl (76, 277)))), some (.inl a)] [] (f, l) Q := by
  refine fl_Tq.stp (pc' := 18) (lv' := [some (.inr (.inr (.inl (76, 277)))), some (.inl a)]) (st' := [.inr (.inr (.inl (76, 277)))]) (m' := (f, l)) rfl rfl (fl_bo rfl) rfl ?_
  refine fl_Tq.stp (pc' := 19) (lv' := [some (.inr (.inr (.inl (76, 277)))), some (.inl a)]) (st' := [.inl a, .inr (.inr (.inl (76, 277)))]) (m' := (f, l)) rfl rfl (fl_bo rfl) rfl ?_
  exact k
theorem y_drive_A {L : Nat} {xs : Nat → Int32} {f : t2_F} {l : t2_L} {Q : Option fl_V → fl_M → Prop}   (k : ((f 280 19).toInt = 0) → Q (some (.inl (-1 : Int32))) (f, l)) (k1 : (¬ ((f 280 19).toInt = 0)) → fl_Tq (pw_P L xs) 267 18 [some (.inr (.inr (.inl (76, 277))))] [.inr (.inr (.inl (76, 277))), .inl (f 280 7)] (f, l) Q) : fl_Tq (pw_P L xs) 267 0 [some (.inr (.inr (.inl (76, 277))))] [] (f, l) Q := by
  refine fl_Tq.stp (pc' := 1) (lv' := [some (.inr (.inr (.inl (76, 277))))]) (st' := [.inr (.inr (.inl (76, 277)))]) (m' := (f, l)) rfl rfl (fl_bo rfl) rfl ?_
  refine fl_Tq.stp (pc' := 4) (lv' := [some (.inr (.inr (.inl (76, 277))))]) (st' := [.inr (.inr (.inl (79, 280)))]) (m' := (f, l)) rfl rfl (fl_bo rfl) rfl ?_
  refine fl_Tq.cB (c := (19 : Int32)) rfl (by decide +kernel) (fl_bo rfl) ?_
  refine fl_Tq.ldV (p := 280) (τ := 79) (n := 29780) (z := (0, 0, 0)) (k := 19) (v := f 280 19) rfl (fl_bo rfl) rfl (by decide +kernel) (by decide) rfl ?_
  by_cases h1 : (f 280 19).toInt = 0
  · refine fl_Tq.zt rfl (fl_bo rfl) (c1_eq_t h1) rfl ?_
    refine fl_Tq.cI (c := (-1 : Int32)) rfl (by decide +kernel) (fl_bo rfl) ?_
    exact fl_Tq.ret rfl rfl rfl (k h1)
  · refine fl_Tq.zf rfl (fl_bo rfl) (c1_eq_f h1) rfl ?_
    refine fl_Tq.stp (pc' := 11) (lv' := [some (.inr (.inr (.inl (76, 277))))]) (st' := [.inr (.inr (.inl (76, 277)))]) (m' := (f, l)) rfl rfl (fl_bo rfl) rfl ?_
    refine fl_Tq.stp (pc' := 14) (lv' := [some (.inr (.inr (.inl (76, 277))))]) (st' := [.inr (.inr (.inl (79, 280)))]) (m' := (f, l)) rfl rfl (fl_bo rfl) rfl ?_
    refine fl_Tq.cB (c := (7 : Int32)) rfl (by decide +kernel) (fl_bo rfl) ?_
    refine fl_Tq.ldV (p := 280) (τ := 79) (n := 29780) (z := (0, 0, 0)) (k := 7) (v := f 280 7) rfl (fl_bo rfl) rfl (by decide +kernel) (by decide) rfl ?_
    refine fl_Tq.stp (pc' := 18) (lv' := [some (.inr (.inr (.inl (76, 277))))]) (st' := [.inr (.inr (.inl (76, 277))), .inl (f 280 7)]) (m' := (f, l)) rfl rfl (fl_bo rfl) rfl ?_
    exact k1 h1
theorem y_drive_A2 {L : Nat} {xs : Nat → Int32} {f : t2_F} {l : t2_L} {Q : Option fl_V → fl_M → Prop} {z t : Int32}  (k : ((9999 : Int32).toInt < (t + z).toInt) → Q (some (.inl (-1 : Int32))) (f, l)) (k1 : (¬ ((9999 : Int32).toInt < (t + z).toInt)) → fl_Tq (pw_P L xs) 267 31 [some (.inr (.inr (.inl (76, 277))))] [.inr (.inr (.inl (76, 277)))] (f, l) Q) : fl_Tq (pw_P L xs) 267 21 [some (.inr (.inr (.inl (76, 277))))] [.inl z, .inl t] (f, l) Q := by
  refine fl_Tq.stp (pc' := 22) (lv' := [some (.inr (.inr (.inl (76, 277))))]) (st' := [.inl (t + z)]) (m' := (f, l)) rfl rfl (fl_bo rfl) rfl ?_
  refine fl_Tq.cS (c := (9999 : Int32)) rfl (by decide +kernel) (fl_bo rfl) ?_
  by_cases h1 : (9999 : Int32).toInt < (t + z).toInt
  · refine fl_Tq.jf rfl (fl_bo rfl) (c2_le_f h1) rfl ?_
    refine fl_Tq.cI (c := (-1 : Int32)) rfl (by decide +kernel) (fl_bo rfl) ?_
    exact fl_Tq.ret rfl rfl rfl (k h1)
  · refine fl_Tq.jt rfl (fl_bo rfl) (c2_le_t h1) rfl ?_
    refine fl_Tq.stp (pc' := 31) (lv' := [some (.inr (.inr (.inl (76, 277))))]) (st' := [.inr (.inr (.inl (76, 277)))]) (m' := (f, l)) rfl rfl (fl_bo rfl) rfl ?_
    exact k1 h1
theorem y_drive_B {L : Nat} {xs : Nat → Int32} {f : t2_F} {l : t2_L} {Q : Option fl_V → fl_M → Prop}   (k : fl_Tq (pw_P L xs) 267 35 [some (.inr (.inr (.inl (76, 277))))] [.inr (.inr (.inl (76, 277)))] (f, l) Q) : fl_Tq (pw_P L xs) 267 34 [some (.inr (.inr (.inl (76, 277))))] [] (f, l) Q := by
  refine fl_Tq.stp (pc' := 35) (lv' := [some (.inr (.inr (.inl (76, 277))))]) (st' := [.inr (.inr (.inl (76, 277)))]) (m' := (f, l)) rfl rfl (fl_bo rfl) rfl ?_
  exact k
theorem y_warm_A {L : Nat} {xs : Nat → Int32} {f : t2_F} {l : t2_L} {Q : Option fl_V → fl_M → Prop} {a b : Int32}  (k : ((r_isCell_v f a).toInt = 0) → Q (some (.inl (0 : Int32))) (f, l)) (k1 : (¬ ((r_isCell_v f a).toInt = 0)) → fl_Tq (pw_P L xs) 245 8 [some (.inr (.inr (.inl (76, 277)))), some (.inl a), some (.inl b)] [] (f, l) Q) : fl_Tq (pw_P L xs) 245 0 [some (.inr (.inr (.inl (76, 277)))), some (.inl a), some (.inl b)] [] (f, l) Q := by
  refine fl_Tq.stp (pc' := 1) (lv' := [some (.inr (.inr (.inl (76, 277)))), some (.inl a), some (.inl b)]) (st' := [.inr (.inr (.inl (76, 277)))]) (m' := (f, l)) rfl rfl (fl_bo rfl) rfl ?_
  refine fl_Tq.stp (pc' := 2) (lv' := [some (.inr (.inr (.inl (76, 277)))), some (.inl a), some (.inl b)]) (st' := [.inl a, .inr (.inr (.inl (76, 277)))]) (m' := (f, l)) rfl rfl (fl_bo rfl) rfl ?_
  refine fl_Tq.cal rfl rfl (fl_bo rfl) rfl ?_
  refine r_isCell_q  ?_
  show fl_Tq _ 245 5 [some (.inr (.inr (.inl (76, 277)))), some (.inl a), some (.inl b)] [.inl (r_isCell_v f a)] (f, l) _
  by_cases h1 : (r_isCell_v f a).toInt = 0
  · refine fl_Tq.zt rfl (fl_bo rfl) (c1_eq_t h1) rfl ?_
    refine fl_Tq.cI (c := (0 : Int32)) rfl (by decide +kernel) (fl_bo rfl) ?_
    exact fl_Tq.ret rfl rfl rfl (k h1)
  · refine fl_Tq.zf rfl (fl_bo rfl) (c1_eq_f h1) rfl ?_
    exact k1 h1
theorem y_warm_A2 {L : Nat} {xs : Nat → Int32} {f : t2_F} {l : t2_L} {Q : Option fl_V → fl_M → Prop} {a b : Int32}  (k : ((r_isIn_v b (-400 : Int32) (1200 : Int32)).toInt = 0) → Q (some (.inl (0 : Int32))) (f, l)) (k1 : (¬ ((r_isIn_v b (-400 : Int32) (1200 : Int32)).toInt = 0)) → fl_Tq (pw_P L xs) 245 24 [some (.inr (.inr (.inl (76, 277)))), some (.inl a), some (.inl b)] [.inr (.inr (.inl (76, 277)))] (f, l) Q) : fl_Tq (pw_P L xs) 245 8 [some (.inr (.inr (.inl (76, 277)))), some (.inl a), some (.inl b)] [] (f, l) Q := by
  refine fl_Tq.stp (pc' := 9) (lv' := [some (.inr (.inr (.inl (76, 277)))), some (.inl a), some (.inl b)]) (st' := [.inl b]) (m' := (f, l)) rfl rfl (fl_bo rfl) rfl ?_
  refine fl_Tq.cS (c := (-400 : Int32)) rfl (by decide +kernel) (fl_bo rfl) ?_
  refine fl_Tq.cS (c := (1200 : Int32)) rfl (by decide +kernel) (fl_bo rfl) ?_
  refine fl_Tq.cal rfl rfl (fl_bo rfl) rfl ?_
  refine r_isIn_q  ?_
  show fl_Tq _ 245 18 [some (.inr (.inr (.inl (76, 277)))), some (.inl a), some (.inl b)] [.inl (r_isIn_v b (-400 : Int32) (1200 : Int32))] (f, l) _
  by_cases h1 : (r_isIn_v b (-400 : Int32) (1200 : Int32)).toInt = 0
  · refine fl_Tq.zf rfl (fl_bo rfl) (c1_ne_f h1) rfl ?_
    refine fl_Tq.cI (c := (0 : Int32)) rfl (by decide +kernel) (fl_bo rfl) ?_
    exact fl_Tq.ret rfl rfl rfl (k h1)
  · refine fl_Tq.zt rfl (fl_bo rfl) (c1_ne_t h1) rfl ?_
    refine fl_Tq.stp (pc' := 24) (lv' := [some (.inr (.inr (.inl (76, 277)))), some (.inl a), some (.inl b)]) (st' := [.inr (.inr (.inl (76, 277)))]) (m' := (f, l)) rfl rfl (fl_bo rfl) rfl ?_
    exact k1 h1
theorem y_warm_B {L : Nat} {xs : Nat → Int32} {f : t2_F} {l : t2_L} {Q : Option fl_V → fl_M → Prop} {a b : Int32} {A : Nat} (hA : a.toInt = (A : Int)) (hA1 : A < 16) (k : Q (some (.inl (1 : Int32))) (fl_row f 280 (upd (f 280) (444 + 61 * A + 3) b), l)) : fl_Tq (pw_P L xs) 245 27 [some (.inr (.inr (.inl (76, 277)))), some (.inl a), some (.inl b)] [] (f, l) Q := by
  refine fl_Tq.stp (pc' := 28) (lv' := [some (.inr (.inr (.inl (76, 277)))), some (.inl a), some (.inl b)]) (st' := [.inr (.inr (.inl (76, 277)))]) (m' := (f, l)) rfl rfl (fl_bo rfl) rfl ?_
  refine fl_Tq.stp (pc' := 29) (lv' := [some (.inr (.inr (.inl (76, 277)))), some (.inl a), some (.inl b)]) (st' := [.inl a, .inr (.inr (.inl (76, 277)))]) (m' := (f, l)) rfl rfl (fl_bo rfl) rfl ?_
  refine fl_Tq.cI (c := (3 : Int32)) rfl (by decide +kernel) (fl_bo rfl) ?_
  refine fl_Tq.stp (pc' := 31) (lv' := [some (.inr (.inr (.inl (76, 277)))), some (.inl a), some (.inl b)]) (st' := [.inl b, .inl (3 : Int32), .inl a, .inr (.inr (.inl (76, 277)))]) (m' := (f, l)) rfl rfl (fl_bo rfl) rfl ?_
  refine fl_Tq.cal rfl rfl (fl_bo rfl) rfl ?_
  refine t2_let (C := A) (W := 3) (m' := (fl_row f 280 (upd (f 280) (444 + 61 * A + 3) b), l)) hA (by decide +kernel) hA1 (by decide) (t2_upn rfl) ?_
  show fl_Tq _ 245 34 [some (.inr (.inr (.inl (76, 277)))), some (.inl a), some (.inl b)] [] (fl_row f 280 (upd (f 280) (444 + 61 * A + 3) b), l) _
  refine fl_Tq.cI (c := (1 : Int32)) rfl (by decide +kernel) (fl_bo rfl) ?_
  exact fl_Tq.ret rfl rfl rfl k
theorem y_charge_A {L : Nat} {xs : Nat → Int32} {f : t2_F} {l : t2_L} {Q : Option fl_V → fl_M → Prop} {a b : Int32}  (k : ((r_isCell_v f a).toInt = 0) → Q (some (.inl (0 : Int32))) (f, l)) (k1 : (¬ ((r_isCell_v f a).toInt = 0)) → fl_Tq (pw_P L xs) 244 8 [some (.inr (.inr (.inl (76, 277)))), some (.inl a), some (.inl b)] [] (f, l) Q) : fl_Tq (pw_P L xs) 244 0 [some (.inr (.inr (.inl (76, 277)))), some (.inl a), some (.inl b)] [] (f, l) Q := by
  refine fl_Tq.stp (pc' := 1) (lv' := [some (.inr (.inr (.inl (76, 277)))), some (.inl a), some (.inl b)]) (st' := [.inr (.inr (.inl (76, 277)))]) (m' := (f, l)) rfl rfl (fl_bo rfl) rfl ?_
  refine fl_Tq.stp (pc' := 2) (lv' := [some (.inr (.inr (.inl (76, 277)))), some (.inl a), some (.inl b)]) (st' := [.inl a, .inr (.inr (.inl (76, 277)))]) (m' := (f, l)) rfl rfl (fl_bo rfl) rfl ?_
  refine fl_Tq.cal rfl rfl (fl_bo rfl) rfl ?_
  refine r_isCell_q  ?_
  show fl_Tq _ 244 5 [some (.inr (.inr (.inl (76, 277)))), some (.inl a), some (.inl b)] [.inl (r_isCell_v f a)] (f, l) _
  by_cases h1 : (r_isCell_v f a).toInt = 0
  · refine fl_Tq.zt rfl (fl_bo rfl) (c1_eq_t h1) rfl ?_
    refine fl_Tq.cI (c := (0 : Int32)) rfl (by decide +kernel) (fl_bo rfl) ?_
    exact fl_Tq.ret rfl rfl rfl (k h1)
  · refine fl_Tq.zf rfl (fl_bo rfl) (c1_eq_f h1) rfl ?_
    exact k1 h1
theorem y_charge_A2 {L : Nat} {xs : Nat → Int32} {f : t2_F} {l : t2_L} {Q : Option fl_V → fl_M → Prop} {a b : Int32} {A : Nat} (hA : a.toInt = (A : Int)) (hA1 : A < 16) (k : ((r_isIn_v b (0 : Int32) ((3600 : Int32) * (f 280 (444 + 61 * A + 0)))).toInt = 0) → Q (some (.inl (0 : Int32))) (f, l)) (k1 : (¬ ((r_isIn_v b (0 : Int32) ((3600 : Int32) * (f 280 (444 + 61 * A + 0)))).toInt = 0)) → fl_Tq (pw_P L xs) 244 24 [some (.inr (.inr (.inl (76, 277)))), some (.inl a), some (.inl b)] [.inr (.inr (.inl (76, 277)))] (f, l) Q) : fl_Tq (pw_P L xs) 244 8 [some (.inr (.inr (.inl (76, 277)))), some (.inl a), some (.inl b)] [] (f, l) Q := by
  refine fl_Tq.stp (pc' := 9) (lv' := [some (.inr (.inr (.inl (76, 277)))), some (.inl a), some (.inl b)]) (st' := [.inl b]) (m' := (f, l)) rfl rfl (fl_bo rfl) rfl ?_
  refine fl_Tq.cI (c := (0 : Int32)) rfl (by decide +kernel) (fl_bo rfl) ?_
  refine fl_Tq.stp (pc' := 11) (lv' := [some (.inr (.inr (.inl (76, 277)))), some (.inl a), some (.inl b)]) (st' := [.inr (.inr (.inl (76, 277))), .inl (0 : Int32), .inl b]) (m' := (f, l)) rfl rfl (fl_bo rfl) rfl ?_
  refine fl_Tq.stp (pc' := 12) (lv' := [some (.inr (.inr (.inl (76, 277)))), some (.inl a), some (.inl b)]) (st' := [.inl a, .inr (.inr (.inl (76, 277))), .inl (0 : Int32), .inl b]) (m' := (f, l)) rfl rfl (fl_bo rfl) rfl ?_
  refine fl_Tq.cal rfl rfl (fl_bo rfl) rfl ?_
  refine fl_Tq.cS (c := (3600 : Int32)) rfl (by decide +kernel) (fl_bo rfl) ?_
  refine fl_Tq.stp (pc' := 4) (lv' := [some (.inr (.inr (.inl (76, 277)))), some (.inl a)]) (st' := [.inr (.inr (.inl (76, 277))), .inl (3600 : Int32)]) (m' := (f, l)) rfl rfl (fl_bo rfl) rfl ?_
  refine fl_Tq.stp (pc' := 5) (lv' := [some (.inr (.inr (.inl (76, 277)))), some (.inl a)]) (st' := [.inl a, .inr (.inr (.inl (76, 277))), .inl (3600 : Int32)]) (m' := (f, l)) rfl rfl (fl_bo rfl) rfl ?_
  refine fl_Tq.cI (c := (0 : Int32)) rfl (by decide +kernel) (fl_bo rfl) ?_
  refine fl_Tq.cal rfl rfl (fl_bo rfl) rfl ?_
  refine t2_get (C := A) (W := 0) (v := f 280 (444 + 61 * A + 0)) hA (by decide +kernel) hA1 (by decide) rfl ?_
  show fl_Tq _ 195 9 [some (.inr (.inr (.inl (76, 277)))), some (.inl a)] [.inl (f 280 (444 + 61 * A + 0)), .inl (3600 : Int32)] (f, l) _
  refine fl_Tq.stp (pc' := 10) (lv' := [some (.inr (.inr (.inl (76, 277)))), some (.inl a)]) (st' := [.inl ((3600 : Int32) * (f 280 (444 + 61 * A + 0)))]) (m' := (f, l)) rfl rfl (fl_bo rfl) rfl ?_
  refine fl_Tq.ret rfl rfl rfl ?_
  show fl_Tq _ 244 15 [some (.inr (.inr (.inl (76, 277)))), some (.inl a), some (.inl b)] [.inl ((3600 : Int32) * (f 280 (444 + 61 * A + 0))), .inl (0 : Int32), .inl b] (f, l) _
  refine fl_Tq.cal rfl rfl (fl_bo rfl) rfl ?_
  refine r_isIn_q  ?_
  show fl_Tq _ 244 18 [some (.inr (.inr (.inl (76, 277)))), some (.inl a), some (.inl b)] [.inl (r_isIn_v b (0 : Int32) ((3600 : Int32) * (f 280 (444 + 61 * A + 0))))] (f, l) _
  by_cases h1 : (r_isIn_v b (0 : Int32) ((3600 : Int32) * (f 280 (444 + 61 * A + 0)))).toInt = 0
  · refine fl_Tq.zf rfl (fl_bo rfl) (c1_ne_f h1) rfl ?_
    refine fl_Tq.cI (c := (0 : Int32)) rfl (by decide +kernel) (fl_bo rfl) ?_
    exact fl_Tq.ret rfl rfl rfl (k h1)
  · refine fl_Tq.zt rfl (fl_bo rfl) (c1_ne_t h1) rfl ?_
    refine fl_Tq.stp (pc' := 24) (lv' := [some (.inr (.inr (.inl (76, 277)))), some (.inl a), some (.inl b)]) (st' := [.inr (.inr (.inl (76, 277)))]) (m' := (f, l)) rfl rfl (fl_bo rfl) rfl ?_
    exact k1 h1
theorem y_charge_B {L : Nat} {xs : Nat → Int32} {f : t2_F} {l : t2_L} {Q : Option fl_V → fl_M → Prop} {a b : Int32} {A : Nat} (hA : a.toInt = (A : Int)) (hA1 : A < 16) (k : Q (some (.inl (1 : Int32))) (fl_row f 280 (upd (f 280) (444 + 61 * A + 1) b), l)) : fl_Tq (pw_P L xs) 244 27 [some (.inr (.inr (.inl (76, 277)))), some (.inl a), some (.inl b)] [] (f, l) Q := by
  refine fl_Tq.stp (pc' := 28) (lv' := [some (.inr (.inr (.inl (76, 277)))), some (.inl a), some (.inl b)]) (st' := [.inr (.inr (.inl (76, 277)))]) (m' := (f, l)) rfl rfl (fl_bo rfl) rfl ?_
  refine fl_Tq.stp (pc' := 29) (lv' := [some (.inr (.inr (.inl (76, 277)))), some (.inl a), some (.inl b)]) (st' := [.inl a, .inr (.inr (.inl (76, 277)))]) (m' := (f, l)) rfl rfl (fl_bo rfl) rfl ?_
  refine fl_Tq.cI (c := (1 : Int32)) rfl (by decide +kernel) (fl_bo rfl) ?_
  refine fl_Tq.stp (pc' := 31) (lv' := [some (.inr (.inr (.inl (76, 277)))), some (.inl a), some (.inl b)]) (st' := [.inl b, .inl (1 : Int32), .inl a, .inr (.inr (.inl (76, 277)))]) (m' := (f, l)) rfl rfl (fl_bo rfl) rfl ?_
  refine fl_Tq.cal rfl rfl (fl_bo rfl) rfl ?_
  refine t2_let (C := A) (W := 1) (m' := (fl_row f 280 (upd (f 280) (444 + 61 * A + 1) b), l)) hA (by decide +kernel) hA1 (by decide) (t2_upn rfl) ?_
  show fl_Tq _ 244 34 [some (.inr (.inr (.inl (76, 277)))), some (.inl a), some (.inl b)] [] (fl_row f 280 (upd (f 280) (444 + 61 * A + 1) b), l) _
  refine fl_Tq.cI (c := (1 : Int32)) rfl (by decide +kernel) (fl_bo rfl) ?_
  exact fl_Tq.ret rfl rfl rfl k
theorem y_cell_A {L : Nat} {xs : Nat → Int32} {f : t2_F} {l : t2_L} {Q : Option fl_V → fl_M → Prop} {a b c : Int32}  (k : ((r_isIn_v a (100 : Int32) (9999 : Int32)).toInt = 0) → Q (some (.inl (-1 : Int32))) (f, l)) (k1 : (¬ ((r_isIn_v a (100 : Int32) (9999 : Int32)).toInt = 0)) → ((r_isIn_v b (0 : Int32) (1000 : Int32)).toInt = 0) → Q (some (.inl (-1 : Int32))) (f, l)) (k2 : (¬ ((r_isIn_v a (100 : Int32) (9999 : Int32)).toInt = 0)) → (¬ ((r_isIn_v b (0 : Int32) (1000 : Int32)).toInt = 0)) → ((r_isIn_v c (0 : Int32) (99 : Int32)).toInt = 0) → Q (some (.inl (-1 : Int32))) (f, l)) (k3 : (¬ ((r_isIn_v a (100 : Int32) (9999 : Int32)).toInt = 0)) → (¬ ((r_isIn_v b (0 : Int32) (1000 : Int32)).toInt = 0)) → (¬ ((r_isIn_v c (0 : Int32) (99 : Int32)).toInt = 0)) → ((f 280 2).toInt = (16 : Int32).toInt) → Q (some (.inl (-1 : Int32))) (f, l)) (k4 : (¬ ((r_isIn_v a (100 : Int32) (9999 : Int32)).toInt = 0)) → (¬ ((r_isIn_v b (0 : Int32) (1000 : Int32)).toInt = 0)) → (¬ ((r_isIn_v c (0 : Int32) (99 : Int32)).toInt = 0)) → (¬ ((f 280 2).toInt = (16 : Int32).toInt)) → fl_Tq (pw_P L xs) 243 47 [some (.inr (.inr (.inl (76, 277)))), some (.inl a), some (.inl b), some (.inl c), none, none] [.inr (.inr (.inl (76, 277)))] (f, l) Q) : fl_Tq (pw_P L xs) 243 0 [some (.inr (.inr (.inl (76, 277)))), some (.inl a), some (.inl b), some (.inl c), none, none] [] (f, l) Q := by
  refine fl_Tq.stp (pc' := 1) (lv' := [some (.inr (.inr (.inl (76, 277)))), some (.inl a), some (.inl b), some (.inl c), none, none]) (st' := [.inl a]) (m' := (f, l)) rfl rfl (fl_bo rfl) rfl ?_
  refine fl_Tq.cB (c := (100 : Int32)) rfl (by decide +kernel) (fl_bo rfl) ?_
  refine fl_Tq.cS (c := (9999 : Int32)) rfl (by decide +kernel) (fl_bo rfl) ?_
  refine fl_Tq.cal rfl rfl (fl_bo rfl) rfl ?_
  refine r_isIn_q  ?_
  show fl_Tq _ 243 9 [some (.inr (.inr (.inl (76, 277)))), some (.inl a), some (.inl b), some (.inl c), none, none] [.inl (r_isIn_v a (100 : Int32) (9999 : Int32))] (f, l) _
  by_cases h1 : (r_isIn_v a (100 : Int32) (9999 : Int32)).toInt = 0
  · refine fl_Tq.zt rfl (fl_bo rfl) (c1_eq_t h1) rfl ?_
    refine fl_Tq.cI (c := (-1 : Int32)) rfl (by decide +kernel) (fl_bo rfl) ?_
    exact fl_Tq.ret rfl rfl rfl (k h1)
  · refine fl_Tq.zf rfl (fl_bo rfl) (c1_eq_f h1) rfl ?_
    refine fl_Tq.stp (pc' := 13) (lv' := [some (.inr (.inr (.inl (76, 277)))), some (.inl a), some (.inl b), some (.inl c), none, none]) (st' := [.inl b]) (m' := (f, l)) rfl rfl (fl_bo rfl) rfl ?_
    refine fl_Tq.cI (c := (0 : Int32)) rfl (by decide +kernel) (fl_bo rfl) ?_
    refine fl_Tq.cS (c := (1000 : Int32)) rfl (by decide +kernel) (fl_bo rfl) ?_
    refine fl_Tq.cal rfl rfl (fl_bo rfl) rfl ?_
    refine r_isIn_q  ?_
    show fl_Tq _ 243 20 [some (.inr (.inr (.inl (76, 277)))), some (.inl a), some (.inl b), some (.inl c), none, none] [.inl (r_isIn_v b (0 : Int32) (1000 : Int32))] (f, l) _
    by_cases h2 : (r_isIn_v b (0 : Int32) (1000 : Int32)).toInt = 0
    · refine fl_Tq.zt rfl (fl_bo rfl) (c1_eq_t h2) rfl ?_
      refine fl_Tq.cI (c := (-1 : Int32)) rfl (by decide +kernel) (fl_bo rfl) ?_
      exact fl_Tq.ret rfl rfl rfl (k1 h1 h2)
    · refine fl_Tq.zf rfl (fl_bo rfl) (c1_eq_f h2) rfl ?_
      refine fl_Tq.stp (pc' := 24) (lv' := [some (.inr (.inr (.inl (76, 277)))), some (.inl a), some (.inl b), some (.inl c), none, none]) (st' := [.inl c]) (m' := (f, l)) rfl rfl (fl_bo rfl) rfl ?_
      refine fl_Tq.cI (c := (0 : Int32)) rfl (by decide +kernel) (fl_bo rfl) ?_
      refine fl_Tq.cB (c := (99 : Int32)) rfl (by decide +kernel) (fl_bo rfl) ?_
      refine fl_Tq.cal rfl rfl (fl_bo rfl) rfl ?_
      refine r_isIn_q  ?_
      show fl_Tq _ 243 30 [some (.inr (.inr (.inl (76, 277)))), some (.inl a), some (.inl b), some (.inl c), none, none] [.inl (r_isIn_v c (0 : Int32) (99 : Int32))] (f, l) _
      by_cases h3 : (r_isIn_v c (0 : Int32) (99 : Int32)).toInt = 0
      · refine fl_Tq.zt rfl (fl_bo rfl) (c1_eq_t h3) rfl ?_
        refine fl_Tq.cI (c := (-1 : Int32)) rfl (by decide +kernel) (fl_bo rfl) ?_
        exact fl_Tq.ret rfl rfl rfl (k2 h1 h2 h3)
      · refine fl_Tq.zf rfl (fl_bo rfl) (c1_eq_f h3) rfl ?_
        refine fl_Tq.stp (pc' := 34) (lv' := [some (.inr (.inr (.inl (76, 277)))), some (.inl a), some (.inl b), some (.inl c), none, none]) (st' := [.inr (.inr (.inl (76, 277)))]) (m' := (f, l)) rfl rfl (fl_bo rfl) rfl ?_
        refine fl_Tq.stp (pc' := 37) (lv' := [some (.inr (.inr (.inl (76, 277)))), some (.inl a), some (.inl b), some (.inl c), none, none]) (st' := [.inr (.inr (.inl (79, 280)))]) (m' := (f, l)) rfl rfl (fl_bo rfl) rfl ?_
        refine fl_Tq.cI (c := (2 : Int32)) rfl (by decide +kernel) (fl_bo rfl) ?_
        refine fl_Tq.ldV (p := 280) (τ := 79) (n := 29780) (z := (0, 0, 0)) (k := 2) (v := f 280 2) rfl (fl_bo rfl) rfl (by decide +kernel) (by decide) rfl ?_
        refine fl_Tq.cB (c := (16 : Int32)) rfl (by decide +kernel) (fl_bo rfl) ?_
        by_cases h4 : (f 280 2).toInt = (16 : Int32).toInt
        · refine fl_Tq.jf rfl (fl_bo rfl) (c2_ne_f h4) rfl ?_
          refine fl_Tq.cI (c := (-1 : Int32)) rfl (by decide +kernel) (fl_bo rfl) ?_
          exact fl_Tq.ret rfl rfl rfl (k3 h1 h2 h3 h4)
        · refine fl_Tq.jt rfl (fl_bo rfl) (c2_ne_t h4) rfl ?_
          refine fl_Tq.stp (pc' := 47) (lv' := [some (.inr (.inr (.inl (76, 277)))), some (.inl a), some (.inl b), some (.inl c), none, none]) (st' := [.inr (.inr (.inl (76, 277)))]) (m' := (f, l)) rfl rfl (fl_bo rfl) rfl ?_
          exact k4 h1 h2 h3 h4
theorem y_mark_A {L : Nat} {xs : Nat → Int32} {f : t2_F} {l : t2_L} {Q : Option fl_V → fl_M → Prop} {a : Int32}  (k : ((r_isIn_v a (0 : Int32) (2 : Int32)).toInt = 0) → Q (some (.inl (0 : Int32))) (f, l)) (k1 : (¬ ((r_isIn_v a (0 : Int32) (2 : Int32)).toInt = 0)) → fl_Tq (pw_P L xs) 257 12 [some (.inr (.inr (.inl (76, 277)))), some (.inl a), none, none] [.inr (.inr (.inl (76, 277)))] (f, l) Q) : fl_Tq (pw_P L xs) 257 0 [some (.inr (.inr (.inl (76, 277)))), some (.inl a), none, none] [] (f, l) Q := by
  refine fl_Tq.stp (pc' := 1) (lv' := [some (.inr (.inr (.inl (76, 277)))), some (.inl a), none, none]) (st' := [.inl a]) (m' := (f, l)) rfl rfl (fl_bo rfl) rfl ?_
  refine fl_Tq.cI (c := (0 : Int32)) rfl (by decide +kernel) (fl_bo rfl) ?_
  refine fl_Tq.cI (c := (2 : Int32)) rfl (by decide +kernel) (fl_bo rfl) ?_
  refine fl_Tq.cal rfl rfl (fl_bo rfl) rfl ?_
  refine r_isIn_q  ?_
  show fl_Tq _ 257 6 [some (.inr (.inr (.inl (76, 277)))), some (.inl a), none, none] [.inl (r_isIn_v a (0 : Int32) (2 : Int32))] (f, l) _
  by_cases h1 : (r_isIn_v a (0 : Int32) (2 : Int32)).toInt = 0
  · refine fl_Tq.zf rfl (fl_bo rfl) (c1_ne_f h1) rfl ?_
    refine fl_Tq.cI (c := (0 : Int32)) rfl (by decide +kernel) (fl_bo rfl) ?_
    exact fl_Tq.ret rfl rfl rfl (k h1)
  · refine fl_Tq.zt rfl (fl_bo rfl) (c1_ne_t h1) rfl ?_
    refine fl_Tq.stp (pc' := 12) (lv' := [some (.inr (.inr (.inl (76, 277)))), some (.inl a), none, none]) (st' := [.inr (.inr (.inl (76, 277)))]) (m' := (f, l)) rfl rfl (fl_bo rfl) rfl ?_
    exact k1 h1
