theorem hk_A {L : Nat} {xs : Nat → Int32} {f : t2_F} {l : t2_L} {Q : Option fl_V → fl_M → Prop}   (k : ((f 271 2).toInt = (20 : Int32).toInt) → fl_Tq (pw_P L xs) 20 28 [some (.inr (.inr (.inl (73, 271)))), some (.inr (.inr (.inl (1, 1))))] [] (fl_row f 271 (upd (upd (f 271) 1 (((f 271 1) + (1 : Int32)) - ((f 271 1) + (1 : Int32)) / (20 : Int32) * (20 : Int32))) 2 ((f 271 2) - (1 : Int32))), l) Q) (k1 : (¬ ((f 271 2).toInt = (20 : Int32).toInt)) → fl_Tq (pw_P L xs) 20 28 [some (.inr (.inr (.inl (73, 271)))), some (.inr (.inr (.inl (1, 1))))] [] (f, l) Q) : fl_Tq (pw_P L xs) 20 0 [some (.inr (.inr (.inl (73, 271)))), some (.inr (.inr (.inl (1, 1))))] [] (f, l) Q := by
  refine fl_Tq.stp (pc' := 1) (lv' := [some (.inr (.inr (.inl (73, 271)))), some (.inr (.inr (.inl (1, 1))))]) (st' := [.inr (.inr (.inl (73, 271)))]) (m' := (f, l)) rfl rfl (fl_bo rfl) rfl ?_
  refine fl_Tq.gfV (k := 2) (v := f 271 2) rfl (fl_bo rfl) rfl rfl ?_
  refine fl_Tq.cB (c := (20 : Int32)) rfl (by decide +kernel) (fl_bo rfl) ?_
  by_cases h1 : (f 271 2).toInt = (20 : Int32).toInt
  · refine fl_Tq.jf rfl (fl_bo rfl) (c2_ne_f h1) rfl ?_
    refine fl_Tq.stp (pc' := 10) (lv' := [some (.inr (.inr (.inl (73, 271)))), some (.inr (.inr (.inl (1, 1))))]) (st' := [.inr (.inr (.inl (73, 271)))]) (m' := (f, l)) rfl rfl (fl_bo rfl) rfl ?_
    refine fl_Tq.stp (pc' := 11) (lv' := [some (.inr (.inr (.inl (73, 271)))), some (.inr (.inr (.inl (1, 1))))]) (st' := [.inr (.inr (.inl (73, 271))), .inr (.inr (.inl (73, 271)))]) (m' := (f, l)) rfl rfl (fl_bo rfl) rfl ?_
    refine fl_Tq.cI (c := (1 : Int32)) rfl (by decide +kernel) (fl_bo rfl) ?_
    refine fl_Tq.cal rfl rfl (fl_bo rfl) rfl ?_
    refine fl_Tq.stp (pc' := 1) (lv' := [some (.inr (.inr (.inl (73, 271)))), some (.inl (1 : Int32))]) (st' := [.inr (.inr (.inl (73, 271)))]) (m' := (f, l)) rfl rfl (fl_bo rfl) rfl ?_
    refine fl_Tq.gfV (k := 1) (v := f 271 1) rfl (fl_bo rfl) rfl rfl ?_
    refine fl_Tq.stp (pc' := 5) (lv' := [some (.inr (.inr (.inl (73, 271)))), some (.inl (1 : Int32))]) (st' := [.inl (1 : Int32), .inl (f 271 1)]) (m' := (f, l)) rfl rfl (fl_bo rfl) rfl ?_
    refine fl_Tq.stp (pc' := 6) (lv' := [some (.inr (.inr (.inl (73, 271)))), some (.inl (1 : Int32))]) (st' := [.inl ((f 271 1) + (1 : Int32))]) (m' := (f, l)) rfl rfl (fl_bo rfl) rfl ?_
    refine fl_Tq.cB (c := (20 : Int32)) rfl (by decide +kernel) (fl_bo rfl) ?_
    refine fl_Tq.rm rfl (fl_bo rfl) (by decide +kernel) ?_
    refine fl_Tq.ret rfl rfl rfl ?_
    show fl_Tq _ 20 15 [some (.inr (.inr (.inl (73, 271)))), some (.inr (.inr (.inl (1, 1))))] [.inl (((f 271 1) + (1 : Int32)) - ((f 271 1) + (1 : Int32)) / (20 : Int32) * (20 : Int32)), .inr (.inr (.inl (73, 271)))] (f, l) _
    refine fl_Tq.pfV (k := 1) (m' := (fl_row f 271 (upd (f 271) 1 (((f 271 1) + (1 : Int32)) - ((f 271 1) + (1 : Int32)) / (20 : Int32) * (20 : Int32))), l)) rfl (fl_bo rfl) rfl (t2_upn rfl) ?_
    refine fl_Tq.stp (pc' := 19) (lv' := [some (.inr (.inr (.inl (73, 271)))), some (.inr (.inr (.inl (1, 1))))]) (st' := [.inr (.inr (.inl (73, 271)))]) (m' := (fl_row f 271 (upd (f 271) 1 (((f 271 1) + (1 : Int32)) - ((f 271 1) + (1 : Int32)) / (20 : Int32) * (20 : Int32))), l)) rfl rfl (fl_bo rfl) rfl ?_
    refine fl_Tq.stp (pc' := 20) (lv' := [some (.inr (.inr (.inl (73, 271)))), some (.inr (.inr (.inl (1, 1))))]) (st' := [.inr (.inr (.inl (73, 271))), .inr (.inr (.inl (73, 271)))]) (m' := (fl_row f 271 (upd (f 271) 1 (((f 271 1) + (1 : Int32)) - ((f 271 1) + (1 : Int32)) / (20 : Int32) * (20 : Int32))), l)) rfl rfl (fl_bo rfl) rfl ?_
    refine fl_Tq.gfV (k := 2) (v := f 271 2) rfl (fl_bo rfl) rfl (by simp only [fl_row_self, upd_ne (by decide : 2 ≠ 1)]) ?_
    refine fl_Tq.cI (c := (1 : Int32)) rfl (by decide +kernel) (fl_bo rfl) ?_
    refine fl_Tq.stp (pc' := 25) (lv' := [some (.inr (.inr (.inl (73, 271)))), some (.inr (.inr (.inl (1, 1))))]) (st' := [.inl ((f 271 2) - (1 : Int32)), .inr (.inr (.inl (73, 271)))]) (m' := (fl_row f 271 (upd (f 271) 1 (((f 271 1) + (1 : Int32)) - ((f 271 1) + (1 : Int32)) / (20 : Int32) * (20 : Int32))), l)) rfl rfl (fl_bo rfl) rfl ?_
    refine fl_Tq.pfV (k := 2) (m' := (fl_row f 271 (upd (upd (f 271) 1 (((f 271 1) + (1 : Int32)) - ((f 271 1) + (1 : Int32)) / (20 : Int32) * (20 : Int32))) 2 ((f 271 2) - (1 : Int32))), l)) rfl (fl_bo rfl) rfl (t2_upr) ?_
    exact k h1
  · refine fl_Tq.jt rfl (fl_bo rfl) (c2_ne_t h1) rfl ?_
    exact k1 h1
theorem hk_B {L : Nat} {xs : Nat → Int32} {f : t2_F} {l : t2_L} {Q : Option fl_V → fl_M → Prop}   (k : fl_Tq (pw_P L xs) 20 37 [some (.inr (.inr (.inl (73, 271)))), some (.inr (.inr (.inl (1, 1))))] [.inl (((f 271 1) + (f 271 2)) - ((f 271 1) + (f 271 2)) / (20 : Int32) * (20 : Int32)), .inr (.inr (.inl (73, 271)))] (f, l) Q) : fl_Tq (pw_P L xs) 20 28 [some (.inr (.inr (.inl (73, 271)))), some (.inr (.inr (.inl (1, 1))))] [] (f, l) Q := by
  refine fl_Tq.stp (pc' := 29) (lv' := [some (.inr (.inr (.inl (73, 271)))), some (.inr (.inr (.inl (1, 1))))]) (st' := [.inr (.inr (.inl (73, 271)))]) (m' := (f, l)) rfl rfl (fl_bo rfl) rfl ?_
  refine fl_Tq.stp (pc' := 30) (lv' := [some (.inr (.inr (.inl (73, 271)))), some (.inr (.inr (.inl (1, 1))))]) (st' := [.inr (.inr (.inl (73, 271))), .inr (.inr (.inl (73, 271)))]) (m' := (f, l)) rfl rfl (fl_bo rfl) rfl ?_
  refine fl_Tq.stp (pc' := 31) (lv' := [some (.inr (.inr (.inl (73, 271)))), some (.inr (.inr (.inl (1, 1))))]) (st' := [.inr (.inr (.inl (73, 271))), .inr (.inr (.inl (73, 271))), .inr (.inr (.inl (73, 271)))]) (m' := (f, l)) rfl rfl (fl_bo rfl) rfl ?_
  refine fl_Tq.gfV (k := 2) (v := f 271 2) rfl (fl_bo rfl) rfl rfl ?_
  refine fl_Tq.cal rfl rfl (fl_bo rfl) rfl ?_
  refine fl_Tq.stp (pc' := 1) (lv' := [some (.inr (.inr (.inl (73, 271)))), some (.inl (f 271 2))]) (st' := [.inr (.inr (.inl (73, 271)))]) (m' := (f, l)) rfl rfl (fl_bo rfl) rfl ?_
  refine fl_Tq.gfV (k := 1) (v := f 271 1) rfl (fl_bo rfl) rfl rfl ?_
  refine fl_Tq.stp (pc' := 5) (lv' := [some (.inr (.inr (.inl (73, 271)))), some (.inl (f 271 2))]) (st' := [.inl (f 271 2), .inl (f 271 1)]) (m' := (f, l)) rfl rfl (fl_bo rfl) rfl ?_
  refine fl_Tq.stp (pc' := 6) (lv' := [some (.inr (.inr (.inl (73, 271)))), some (.inl (f 271 2))]) (st' := [.inl ((f 271 1) + (f 271 2))]) (m' := (f, l)) rfl rfl (fl_bo rfl) rfl ?_
  refine fl_Tq.cB (c := (20 : Int32)) rfl (by decide +kernel) (fl_bo rfl) ?_
  refine fl_Tq.rm rfl (fl_bo rfl) (by decide +kernel) ?_
  refine fl_Tq.ret rfl rfl rfl ?_
  show fl_Tq _ 20 37 [some (.inr (.inr (.inl (73, 271)))), some (.inr (.inr (.inl (1, 1))))] [.inl (((f 271 1) + (f 271 2)) - ((f 271 1) + (f 271 2)) / (20 : Int32) * (20 : Int32)), .inr (.inr (.inl (73, 271)))] (f, l) _
  exact k
theorem hk_C {L : Nat} {xs : Nat → Int32} {f : t2_F} {l : t2_L} {Q : Option fl_V → fl_M → Prop} {d : Nat} (hd : fk_K d = 25 ∧ d < fl_N l.2) (A : t2_blk l.2 d 24) (B : t2_blk l.2 1 0) (hpq : d + 90 ≤ 1 ∨ 1 + 90 ≤ d) (hn : 0 ≤ (f 1 5).toInt ∧ (f 1 5).toInt ≤ 16) (hz : ∀ j : Nat, (j : Int) < (f 1 5).toInt → f (1 + 17 + 4 * j) 10 = 0 ∨ f (1 + 17 + 4 * j) 10 = 1) (hw : f (1 + 9) 6 = 0 ∨ f (1 + 9) 6 = 1) (k : fl_Tq (pw_P L xs) 20 44 [some (.inr (.inr (.inl (73, 271)))), some (.inr (.inr (.inl (1, 1))))] [] (bs_m f d 1, l) Q) : fl_Tq (pw_P L xs) 20 40 [some (.inr (.inr (.inl (73, 271)))), some (.inr (.inr (.inl (1, 1))))] [.inr (.inr (.inl (25, d)))] (f, l) Q := by
  refine fl_Tq.stp (pc' := 41) (lv' := [some (.inr (.inr (.inl (73, 271)))), some (.inr (.inr (.inl (1, 1))))]) (st' := [.inr (.inr (.inl (1, 1))), .inr (.inr (.inl (25, d)))]) (m' := (f, l)) rfl rfl (fl_oks_ok ⟨hd, True.intro⟩) rfl ?_
  refine fl_Tq.cal rfl rfl (fl_oks_ok ⟨fl_okp (by decide +kernel) (by decide), hd, True.intro⟩) rfl ?_
  refine bs_24_0_q A B hpq hn hz hw ?_
  show fl_Tq _ 20 44 [some (.inr (.inr (.inl (73, 271)))), some (.inr (.inr (.inl (1, 1))))] [] (bs_m f d 1, l) _
  exact k
theorem hk_D {L : Nat} {xs : Nat → Int32} {f : t2_F} {l : t2_L} {Q : Option fl_V → fl_M → Prop}   (k : Q none (fl_row f 271 (upd (f 271) 2 ((f 271 2) + (1 : Int32))), l)) : fl_Tq (pw_P L xs) 20 44 [some (.inr (.inr (.inl (73, 271)))), some (.inr (.inr (.inl (1, 1))))] [] (f, l) Q := by
  refine fl_Tq.stp (pc' := 45) (lv' := [some (.inr (.inr (.inl (73, 271)))), some (.inr (.inr (.inl (1, 1))))]) (st' := [.inr (.inr (.inl (73, 271)))]) (m' := (f, l)) rfl rfl (fl_bo rfl) rfl ?_
  refine fl_Tq.stp (pc' := 46) (lv' := [some (.inr (.inr (.inl (73, 271)))), some (.inr (.inr (.inl (1, 1))))]) (st' := [.inr (.inr (.inl (73, 271))), .inr (.inr (.inl (73, 271)))]) (m' := (f, l)) rfl rfl (fl_bo rfl) rfl ?_
  refine fl_Tq.gfV (k := 2) (v := f 271 2) rfl (fl_bo rfl) rfl rfl ?_
  refine fl_Tq.cI (c := (1 : Int32)) rfl (by decide +kernel) (fl_bo rfl) ?_
  refine fl_Tq.stp (pc' := 51) (lv' := [some (.inr (.inr (.inl (73, 271)))), some (.inr (.inr (.inl (1, 1))))]) (st' := [.inl ((f 271 2) + (1 : Int32)), .inr (.inr (.inl (73, 271)))]) (m' := (f, l)) rfl rfl (fl_bo rfl) rfl ?_
  refine fl_Tq.pfV (k := 2) (m' := (fl_row f 271 (upd (f 271) 2 ((f 271 2) + (1 : Int32))), l)) rfl (fl_bo rfl) rfl (t2_upn rfl) ?_
  exact fl_Tq.ret rfl rfl rfl k
theorem hu_A {L : Nat} {xs : Nat → Int32} {f : t2_F} {l : t2_L} {Q : Option fl_V → fl_M → Prop}   (k : fl_Tq (pw_P L xs) 21 20 [some (.inr (.inr (.inl (73, 271)))), some (.inr (.inr (.inl (1, 1))))] [.inl (((f 271 1) + ((f 271 2) - (1 : Int32))) - ((f 271 1) + ((f 271 2) - (1 : Int32))) / (20 : Int32) * (20 : Int32)), .inr (.inr (.inl (73, 271))), .inr (.inr (.inl (1, 1)))] (fl_row f 271 (upd (f 271) 2 ((f 271 2) - (1 : Int32))), l) Q) : fl_Tq (pw_P L xs) 21 0 [some (.inr (.inr (.inl (73, 271)))), some (.inr (.inr (.inl (1, 1))))] [] (f, l) Q := by
  refine fl_Tq.stp (pc' := 1) (lv' := [some (.inr (.inr (.inl (73, 271)))), some (.inr (.inr (.inl (1, 1))))]) (st' := [.inr (.inr (.inl (73, 271)))]) (m' := (f, l)) rfl rfl (fl_bo rfl) rfl ?_
  refine fl_Tq.stp (pc' := 2) (lv' := [some (.inr (.inr (.inl (73, 271)))), some (.inr (.inr (.inl (1, 1))))]) (st' := [.inr (.inr (.inl (73, 271))), .inr (.inr (.inl (73, 271)))]) (m' := (f, l)) rfl rfl (fl_bo rfl) rfl ?_
  refine fl_Tq.gfV (k := 2) (v := f 271 2) rfl (fl_bo rfl) rfl rfl ?_
  refine fl_Tq.cI (c := (1 : Int32)) rfl (by decide +kernel) (fl_bo rfl) ?_
  refine fl_Tq.stp (pc' := 7) (lv' := [some (.inr (.inr (.inl (73, 271)))), some (.inr (.inr (.inl (1, 1))))]) (st' := [.inl ((f 271 2) - (1 : Int32)), .inr (.inr (.inl (73, 271)))]) (m' := (f, l)) rfl rfl (fl_bo rfl) rfl ?_
  refine fl_Tq.pfV (k := 2) (m' := (fl_row f 271 (upd (f 271) 2 ((f 271 2) - (1 : Int32))), l)) rfl (fl_bo rfl) rfl (t2_upn rfl) ?_
  refine fl_Tq.stp (pc' := 11) (lv' := [some (.inr (.inr (.inl (73, 271)))), some (.inr (.inr (.inl (1, 1))))]) (st' := [.inr (.inr (.inl (1, 1)))]) (m' := (fl_row f 271 (upd (f 271) 2 ((f 271 2) - (1 : Int32))), l)) rfl rfl (fl_bo rfl) rfl ?_
  refine fl_Tq.stp (pc' := 12) (lv' := [some (.inr (.inr (.inl (73, 271)))), some (.inr (.inr (.inl (1, 1))))]) (st' := [.inr (.inr (.inl (73, 271))), .inr (.inr (.inl (1, 1)))]) (m' := (fl_row f 271 (upd (f 271) 2 ((f 271 2) - (1 : Int32))), l)) rfl rfl (fl_bo rfl) rfl ?_
  refine fl_Tq.stp (pc' := 13) (lv' := [some (.inr (.inr (.inl (73, 271)))), some (.inr (.inr (.inl (1, 1))))]) (st' := [.inr (.inr (.inl (73, 271))), .inr (.inr (.inl (73, 271))), .inr (.inr (.inl (1, 1)))]) (m' := (fl_row f 271 (upd (f 271) 2 ((f 271 2) - (1 : Int32))), l)) rfl rfl (fl_bo rfl) rfl ?_
  refine fl_Tq.stp (pc' := 14) (lv' := [some (.inr (.inr (.inl (73, 271)))), some (.inr (.inr (.inl (1, 1))))]) (st' := [.inr (.inr (.inl (73, 271))), .inr (.inr (.inl (73, 271))), .inr (.inr (.inl (73, 271))), .inr (.inr (.inl (1, 1)))]) (m' := (fl_row f 271 (upd (f 271) 2 ((f 271 2) - (1 : Int32))), l)) rfl rfl (fl_bo rfl) rfl ?_
  refine fl_Tq.gfV (k := 2) (v := (f 271 2) - (1 : Int32)) rfl (fl_bo rfl) rfl (by simp only [fl_row_self, upd_self]) ?_
  refine fl_Tq.cal rfl rfl (fl_bo rfl) rfl ?_
  refine fl_Tq.stp (pc' := 1) (lv' := [some (.inr (.inr (.inl (73, 271)))), some (.inl ((f 271 2) - (1 : Int32)))]) (st' := [.inr (.inr (.inl (73, 271)))]) (m' := (fl_row f 271 (upd (f 271) 2 ((f 271 2) - (1 : Int32))), l)) rfl rfl (fl_bo rfl) rfl ?_
  refine fl_Tq.gfV (k := 1) (v := f 271 1) rfl (fl_bo rfl) rfl (by simp only [fl_row_self, upd_ne (by decide : 1 ≠ 2)]) ?_
  refine fl_Tq.stp (pc' := 5) (lv' := [some (.inr (.inr (.inl (73, 271)))), some (.inl ((f 271 2) - (1 : Int32)))]) (st' := [.inl ((f 271 2) - (1 : Int32)), .inl (f 271 1)]) (m' := (fl_row f 271 (upd (f 271) 2 ((f 271 2) - (1 : Int32))), l)) rfl rfl (fl_bo rfl) rfl ?_
  refine fl_Tq.stp (pc' := 6) (lv' := [some (.inr (.inr (.inl (73, 271)))), some (.inl ((f 271 2) - (1 : Int32)))]) (st' := [.inl ((f 271 1) + ((f 271 2) - (1 : Int32)))]) (m' := (fl_row f 271 (upd (f 271) 2 ((f 271 2) - (1 : Int32))), l)) rfl rfl (fl_bo rfl) rfl ?_
  refine fl_Tq.cB (c := (20 : Int32)) rfl (by decide +kernel) (fl_bo rfl) ?_
  refine fl_Tq.rm rfl (fl_bo rfl) (by decide +kernel) ?_
  refine fl_Tq.ret rfl rfl rfl ?_
  show fl_Tq _ 21 20 [some (.inr (.inr (.inl (73, 271)))), some (.inr (.inr (.inl (1, 1))))] [.inl (((f 271 1) + ((f 271 2) - (1 : Int32))) - ((f 271 1) + ((f 271 2) - (1 : Int32))) / (20 : Int32) * (20 : Int32)), .inr (.inr (.inl (73, 271))), .inr (.inr (.inl (1, 1)))] (fl_row f 271 (upd (f 271) 2 ((f 271 2) - (1 : Int32))), l) _
  exact k
theorem hu_B {L : Nat} {xs : Nat → Int32} {f : t2_F} {l : t2_L} {Q : Option fl_V → fl_M → Prop} {d : Nat} (hd : fk_K d = 25 ∧ d < fl_N l.2) (A : t2_blk l.2 1 0) (B : t2_blk l.2 d 24) (hpq : 1 + 90 ≤ d ∨ d + 90 ≤ 1) (hn : 0 ≤ (f d 5).toInt ∧ (f d 5).toInt ≤ 16) (hz : ∀ j : Nat, (j : Int) < (f d 5).toInt → f (d + 17 + 4 * j) 10 = 0 ∨ f (d + 17 + 4 * j) 10 = 1) (hw : f (d + 9) 6 = 0 ∨ f (d + 9) 6 = 1) (k : fl_Tq (pw_P L xs) 21 26 [some (.inr (.inr (.inl (73, 271)))), some (.inr (.inr (.inl (1, 1))))] [] (bs_m f 1 d, l) Q) : fl_Tq (pw_P L xs) 21 23 [some (.inr (.inr (.inl (73, 271)))), some (.inr (.inr (.inl (1, 1))))] [.inr (.inr (.inl (25, d))), .inr (.inr (.inl (1, 1)))] (f, l) Q := by
  refine fl_Tq.cal rfl rfl (fl_oks_ok ⟨hd, fl_okp (by decide +kernel) (by decide), True.intro⟩) rfl ?_
  refine bs_0_24_q A B hpq hn hz hw ?_
  show fl_Tq _ 21 26 [some (.inr (.inr (.inl (73, 271)))), some (.inr (.inr (.inl (1, 1))))] [] (bs_m f 1 d, l) _
  exact k
