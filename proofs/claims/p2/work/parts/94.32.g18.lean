theorem c0_drA {L : Nat} {xs : Nat → Int32} {f : t2_F} {l : t2_L} {Q : Option fl_V → fl_M → Prop}   (k : fl_Tq (pw_P L xs) 56 4 [some (.inr (.inr (.inl (1, 1)))), some (.inl (0 : Int32)), some (.inl (0 : Int32)), none, none] [] (f, l) Q) : fl_Tq (pw_P L xs) 56 0 [some (.inr (.inr (.inl (1, 1)))), none, none, none, none] [] (f, l) Q := by
  refine fl_Tq.cI (c := (0 : Int32)) rfl (by decide +kernel) (fl_bo rfl) ?_
  refine fl_Tq.stp (pc' := 2) (lv' := [some (.inr (.inr (.inl (1, 1)))), some (.inl (0 : Int32)), none, none, none]) (st' := []) (m' := (f, l)) rfl rfl (fl_bo rfl) rfl ?_
  refine fl_Tq.cI (c := (0 : Int32)) rfl (by decide +kernel) (fl_bo rfl) ?_
  refine fl_Tq.stp (pc' := 4) (lv' := [some (.inr (.inr (.inl (1, 1)))), some (.inl (0 : Int32)), some (.inl (0 : Int32)), none, none]) (st' := []) (m' := (f, l)) rfl rfl (fl_bo rfl) rfl ?_
  exact k
theorem c0_drB {L : Nat} {xs : Nat → Int32} {f : t2_F} {l : t2_L} {Q : Option fl_V → fl_M → Prop} {mo : Int32} {j : Nat} (hj : j < 24) (hk : (Int32.ofNat j).toInt < (f 3 7).toInt) (k : fl_Tq (pw_P L xs) 56 64 [some (.inr (.inr (.inl (1, 1)))), some (.inl mo), some (.inl (Int32.ofNat j)), some (.inl (t2_min_v (f 8 ((j * 2) + 1)) ((9999 : Int32) - (f 1 6)))), some (.inl (0 : Int32))] [] (fl_row f 4 (upd (f 4) 20 (f 8 (j * 2))), l) Q) : fl_Tq (pw_P L xs) 56 4 [some (.inr (.inr (.inl (1, 1)))), some (.inl mo), some (.inl (Int32.ofNat j)), none, none] [] (f, l) Q := by
  refine fl_Tq.stp (pc' := 5) (lv' := [some (.inr (.inr (.inl (1, 1)))), some (.inl mo), some (.inl (Int32.ofNat j)), none, none]) (st' := [.inl (Int32.ofNat j)]) (m' := (f, l)) rfl rfl (fl_bo rfl) rfl ?_
  refine fl_Tq.stp (pc' := 6) (lv' := [some (.inr (.inr (.inl (1, 1)))), some (.inl mo), some (.inl (Int32.ofNat j)), none, none]) (st' := [.inr (.inr (.inl (1, 1))), .inl (Int32.ofNat j)]) (m' := (f, l)) rfl rfl (fl_bo rfl) rfl ?_
  refine fl_Tq.stp (pc' := 9) (lv' := [some (.inr (.inr (.inl (1, 1)))), some (.inl mo), some (.inl (Int32.ofNat j)), none, none]) (st' := [.inr (.inr (.inl (3, 3))), .inl (Int32.ofNat j)]) (m' := (f, l)) rfl rfl (fl_bo rfl) rfl ?_
  refine fl_Tq.gfV (k := 7) (v := f 3 7) rfl (fl_bo rfl) rfl rfl ?_
  refine fl_Tq.jf rfl (fl_bo rfl) (c2_ge_f hk) rfl ?_
  refine fl_Tq.stp (pc' := 16) (lv' := [some (.inr (.inr (.inl (1, 1)))), some (.inl mo), some (.inl (Int32.ofNat j)), none, none]) (st' := [.inr (.inr (.inl (1, 1)))]) (m' := (f, l)) rfl rfl (fl_bo rfl) rfl ?_
  refine fl_Tq.stp (pc' := 19) (lv' := [some (.inr (.inr (.inl (1, 1)))), some (.inl mo), some (.inl (Int32.ofNat j)), none, none]) (st' := [.inr (.inr (.inl (3, 3)))]) (m' := (f, l)) rfl rfl (fl_bo rfl) rfl ?_
  refine fl_Tq.stp (pc' := 22) (lv' := [some (.inr (.inr (.inl (1, 1)))), some (.inl mo), some (.inl (Int32.ofNat j)), none, none]) (st' := [.inr (.inr (.inl (4, 4)))]) (m' := (f, l)) rfl rfl (fl_bo rfl) rfl ?_
  refine fl_Tq.cB (c := (20 : Int32)) rfl (by decide +kernel) (fl_bo rfl) ?_
  refine fl_Tq.stp (pc' := 25) (lv' := [some (.inr (.inr (.inl (1, 1)))), some (.inl mo), some (.inl (Int32.ofNat j)), none, none]) (st' := [.inr (.inr (.inl (1, 1))), .inl (20 : Int32), .inr (.inr (.inl (4, 4)))]) (m' := (f, l)) rfl rfl (fl_bo rfl) rfl ?_
  refine fl_Tq.stp (pc' := 28) (lv' := [some (.inr (.inr (.inl (1, 1)))), some (.inl mo), some (.inl (Int32.ofNat j)), none, none]) (st' := [.inr (.inr (.inl (3, 3))), .inl (20 : Int32), .inr (.inr (.inl (4, 4)))]) (m' := (f, l)) rfl rfl (fl_bo rfl) rfl ?_
  refine fl_Tq.stp (pc' := 31) (lv' := [some (.inr (.inr (.inl (1, 1)))), some (.inl mo), some (.inl (Int32.ofNat j)), none, none]) (st' := [.inr (.inr (.inl (8, 8))), .inl (20 : Int32), .inr (.inr (.inl (4, 4)))]) (m' := (f, l)) rfl rfl (fl_bo rfl) rfl ?_
  refine fl_Tq.stp (pc' := 32) (lv' := [some (.inr (.inr (.inl (1, 1)))), some (.inl mo), some (.inl (Int32.ofNat j)), none, none]) (st' := [.inl (Int32.ofNat j), .inr (.inr (.inl (8, 8))), .inl (20 : Int32), .inr (.inr (.inl (4, 4)))]) (m' := (f, l)) rfl rfl (fl_bo rfl) rfl ?_
  refine fl_Tq.cI (c := (2 : Int32)) rfl (by decide +kernel) (fl_bo rfl) ?_
  refine fl_Tq.stp (pc' := 34) (lv' := [some (.inr (.inr (.inl (1, 1)))), some (.inl mo), some (.inl (Int32.ofNat j)), none, none]) (st' := [.inl ((Int32.ofNat j) * (2 : Int32)), .inr (.inr (.inl (8, 8))), .inl (20 : Int32), .inr (.inr (.inl (4, 4)))]) (m' := (f, l)) rfl rfl (fl_bo rfl) rfl ?_
  refine fl_Tq.ldV (p := 8) (τ := 8) (n := 48) (z := (0, 0, 0)) (k := j * 2) (v := f 8 (j * 2)) rfl (fl_bo rfl) rfl (t2_im (at_ofN (by omega)) (by decide +kernel) (by omega)) (by omega) rfl ?_
  refine fl_Tq.svV (p := 4) (τ := 4) (n := 30) (z := (0, 0, 0)) (k := 20) (m' := (fl_row f 4 (upd (f 4) 20 (f 8 (j * 2))), l)) rfl (fl_bo rfl) rfl (by decide +kernel) (by decide) (t2_upn rfl) ?_
  refine fl_Tq.stp (pc' := 37) (lv' := [some (.inr (.inr (.inl (1, 1)))), some (.inl mo), some (.inl (Int32.ofNat j)), none, none]) (st' := [.inr (.inr (.inl (1, 1)))]) (m' := (fl_row f 4 (upd (f 4) 20 (f 8 (j * 2))), l)) rfl rfl (fl_bo rfl) rfl ?_
  refine fl_Tq.stp (pc' := 40) (lv' := [some (.inr (.inr (.inl (1, 1)))), some (.inl mo), some (.inl (Int32.ofNat j)), none, none]) (st' := [.inr (.inr (.inl (3, 3)))]) (m' := (fl_row f 4 (upd (f 4) 20 (f 8 (j * 2))), l)) rfl rfl (fl_bo rfl) rfl ?_
  refine fl_Tq.stp (pc' := 43) (lv' := [some (.inr (.inr (.inl (1, 1)))), some (.inl mo), some (.inl (Int32.ofNat j)), none, none]) (st' := [.inr (.inr (.inl (8, 8)))]) (m' := (fl_row f 4 (upd (f 4) 20 (f 8 (j * 2))), l)) rfl rfl (fl_bo rfl) rfl ?_
  refine fl_Tq.stp (pc' := 44) (lv' := [some (.inr (.inr (.inl (1, 1)))), some (.inl mo), some (.inl (Int32.ofNat j)), none, none]) (st' := [.inl (Int32.ofNat j), .inr (.inr (.inl (8, 8)))]) (m' := (fl_row f 4 (upd (f 4) 20 (f 8 (j * 2))), l)) rfl rfl (fl_bo rfl) rfl ?_
  refine fl_Tq.cI (c := (2 : Int32)) rfl (by decide +kernel) (fl_bo rfl) ?_
  refine fl_Tq.stp (pc' := 46) (lv' := [some (.inr (.inr (.inl (1, 1)))), some (.inl mo), some (.inl (Int32.ofNat j)), none, none]) (st' := [.inl ((Int32.ofNat j) * (2 : Int32)), .inr (.inr (.inl (8, 8)))]) (m' := (fl_row f 4 (upd (f 4) 20 (f 8 (j * 2))), l)) rfl rfl (fl_bo rfl) rfl ?_
  refine fl_Tq.cI (c := (1 : Int32)) rfl (by decide +kernel) (fl_bo rfl) ?_
  refine fl_Tq.stp (pc' := 48) (lv' := [some (.inr (.inr (.inl (1, 1)))), some (.inl mo), some (.inl (Int32.ofNat j)), none, none]) (st' := [.inl (((Int32.ofNat j) * (2 : Int32)) + (1 : Int32)), .inr (.inr (.inl (8, 8)))]) (m' := (fl_row f 4 (upd (f 4) 20 (f 8 (j * 2))), l)) rfl rfl (fl_bo rfl) rfl ?_
  refine fl_Tq.ldV (p := 8) (τ := 8) (n := 48) (z := (0, 0, 0)) (k := (j * 2) + 1) (v := f 8 ((j * 2) + 1)) rfl (fl_bo rfl) rfl (t2_ia (t2_im (at_ofN (by omega)) (by decide +kernel) (by omega)) (by decide +kernel) (by omega)) (by omega) (by simp only [fl_row_ne (by decide : 8 ≠ 4)]) ?_
  refine fl_Tq.cS (c := (9999 : Int32)) rfl (by decide +kernel) (fl_bo rfl) ?_
  refine fl_Tq.stp (pc' := 53) (lv' := [some (.inr (.inr (.inl (1, 1)))), some (.inl mo), some (.inl (Int32.ofNat j)), none, none]) (st' := [.inr (.inr (.inl (1, 1))), .inl (9999 : Int32), .inl (f 8 ((j * 2) + 1))]) (m' := (fl_row f 4 (upd (f 4) 20 (f 8 (j * 2))), l)) rfl rfl (fl_bo rfl) rfl ?_
  refine fl_Tq.gfV (k := 6) (v := f 1 6) rfl (fl_bo rfl) rfl (by simp only [fl_row_ne (by decide : 1 ≠ 4)]) ?_
  refine fl_Tq.stp (pc' := 57) (lv' := [some (.inr (.inr (.inl (1, 1)))), some (.inl mo), some (.inl (Int32.ofNat j)), none, none]) (st' := [.inl ((9999 : Int32) - (f 1 6)), .inl (f 8 ((j * 2) + 1))]) (m' := (fl_row f 4 (upd (f 4) 20 (f 8 (j * 2))), l)) rfl rfl (fl_bo rfl) rfl ?_
  refine fl_Tq.cal rfl rfl (fl_bo rfl) rfl ?_
  refine t2_min_q  ?_
  show fl_Tq _ 56 60 [some (.inr (.inr (.inl (1, 1)))), some (.inl mo), some (.inl (Int32.ofNat j)), none, none] [.inl (t2_min_v (f 8 ((j * 2) + 1)) ((9999 : Int32) - (f 1 6)))] (fl_row f 4 (upd (f 4) 20 (f 8 (j * 2))), l) _
  refine fl_Tq.stp (pc' := 61) (lv' := [some (.inr (.inr (.inl (1, 1)))), some (.inl mo), some (.inl (Int32.ofNat j)), some (.inl (t2_min_v (f 8 ((j * 2) + 1)) ((9999 : Int32) - (f 1 6)))), none]) (st' := []) (m' := (fl_row f 4 (upd (f 4) 20 (f 8 (j * 2))), l)) rfl rfl (fl_bo rfl) rfl ?_
  refine fl_Tq.cI (c := (0 : Int32)) rfl (by decide +kernel) (fl_bo rfl) ?_
  refine fl_Tq.stp (pc' := 64) (lv' := [some (.inr (.inr (.inl (1, 1)))), some (.inl mo), some (.inl (Int32.ofNat j)), some (.inl (t2_min_v (f 8 ((j * 2) + 1)) ((9999 : Int32) - (f 1 6)))), some (.inl (0 : Int32))]) (st' := []) (m' := (fl_row f 4 (upd (f 4) 20 (f 8 (j * 2))), l)) rfl rfl (fl_bo rfl) rfl ?_
  exact k
theorem c0_drE {L : Nat} {xs : Nat → Int32} {f : t2_F} {l : t2_L} {Q : Option fl_V → fl_M → Prop} {mo : Int32} {j : Nat} (hk : ¬ ((Int32.ofNat j).toInt < (f 3 7).toInt)) (k : Q (some (.inl mo)) (f, l)) : fl_Tq (pw_P L xs) 56 4 [some (.inr (.inr (.inl (1, 1)))), some (.inl mo), some (.inl (Int32.ofNat j)), none, none] [] (f, l) Q := by
  refine fl_Tq.stp (pc' := 5) (lv' := [some (.inr (.inr (.inl (1, 1)))), some (.inl mo), some (.inl (Int32.ofNat j)), none, none]) (st' := [.inl (Int32.ofNat j)]) (m' := (f, l)) rfl rfl (fl_bo rfl) rfl ?_
  refine fl_Tq.stp (pc' := 6) (lv' := [some (.inr (.inr (.inl (1, 1)))), some (.inl mo), some (.inl (Int32.ofNat j)), none, none]) (st' := [.inr (.inr (.inl (1, 1))), .inl (Int32.ofNat j)]) (m' := (f, l)) rfl rfl (fl_bo rfl) rfl ?_
  refine fl_Tq.stp (pc' := 9) (lv' := [some (.inr (.inr (.inl (1, 1)))), some (.inl mo), some (.inl (Int32.ofNat j)), none, none]) (st' := [.inr (.inr (.inl (3, 3))), .inl (Int32.ofNat j)]) (m' := (f, l)) rfl rfl (fl_bo rfl) rfl ?_
  refine fl_Tq.gfV (k := 7) (v := f 3 7) rfl (fl_bo rfl) rfl rfl ?_
  refine fl_Tq.jt rfl (fl_bo rfl) (c2_ge_t hk) rfl ?_
  refine fl_Tq.stp (pc' := 90) (lv' := [some (.inr (.inr (.inl (1, 1)))), some (.inl mo), some (.inl (Int32.ofNat j)), none, none]) (st' := [.inl mo]) (m' := (f, l)) rfl rfl (fl_bo rfl) rfl ?_
  exact fl_Tq.ret rfl rfl rfl k
theorem c0_drC {L : Nat} {xs : Nat → Int32} {f : t2_F} {l : t2_L} {Q : Option fl_V → fl_M → Prop} {mo n : Int32} {j i : Nat} {fr : t2_F} (h : c0_I f fr) (ht : (fr 280 7).toInt < 9999) (hj : c0_J f) (hk : (Int32.ofNat i).toInt < n.toInt) (k : fl_Tq (pw_P L xs) 56 64 [some (.inr (.inr (.inl (1, 1)))), some (.inl (mo + (c0_sec_v f))), some (.inl (Int32.ofNat j)), some (.inl n), some (.inl ((Int32.ofNat i) + (1 : Int32)))] [] (c0_sec_m f, l) Q) : fl_Tq (pw_P L xs) 56 64 [some (.inr (.inr (.inl (1, 1)))), some (.inl mo), some (.inl (Int32.ofNat j)), some (.inl n), some (.inl (Int32.ofNat i))] [] (f, l) Q := by
  refine fl_Tq.stp (pc' := 66) (lv' := [some (.inr (.inr (.inl (1, 1)))), some (.inl mo), some (.inl (Int32.ofNat j)), some (.inl n), some (.inl (Int32.ofNat i))]) (st' := [.inl (Int32.ofNat i)]) (m' := (f, l)) rfl rfl (fl_bo rfl) rfl ?_
  refine fl_Tq.stp (pc' := 67) (lv' := [some (.inr (.inr (.inl (1, 1)))), some (.inl mo), some (.inl (Int32.ofNat j)), some (.inl n), some (.inl (Int32.ofNat i))]) (st' := [.inl n, .inl (Int32.ofNat i)]) (m' := (f, l)) rfl rfl (fl_bo rfl) rfl ?_
  refine fl_Tq.jf rfl (fl_bo rfl) (c2_ge_f hk) rfl ?_
  refine fl_Tq.stp (pc' := 71) (lv' := [some (.inr (.inr (.inl (1, 1)))), some (.inl mo), some (.inl (Int32.ofNat j)), some (.inl n), some (.inl (Int32.ofNat i))]) (st' := [.inl mo]) (m' := (f, l)) rfl rfl (fl_bo rfl) rfl ?_
  refine fl_Tq.stp (pc' := 72) (lv' := [some (.inr (.inr (.inl (1, 1)))), some (.inl mo), some (.inl (Int32.ofNat j)), some (.inl n), some (.inl (Int32.ofNat i))]) (st' := [.inr (.inr (.inl (1, 1))), .inl mo]) (m' := (f, l)) rfl rfl (fl_bo rfl) rfl ?_
  refine fl_Tq.cal rfl rfl (fl_bo rfl) rfl ?_
  refine c0_sec_q h ht hj ?_
  show fl_Tq _ 56 75 [some (.inr (.inr (.inl (1, 1)))), some (.inl mo), some (.inl (Int32.ofNat j)), some (.inl n), some (.inl (Int32.ofNat i))] [.inl (c0_sec_v f), .inl mo] (c0_sec_m f, l) _
  refine fl_Tq.stp (pc' := 76) (lv' := [some (.inr (.inr (.inl (1, 1)))), some (.inl mo), some (.inl (Int32.ofNat j)), some (.inl n), some (.inl (Int32.ofNat i))]) (st' := [.inl (mo + (c0_sec_v f))]) (m' := (c0_sec_m f, l)) rfl rfl (fl_bo rfl) rfl ?_
  refine fl_Tq.stp (pc' := 77) (lv' := [some (.inr (.inr (.inl (1, 1)))), some (.inl (mo + (c0_sec_v f))), some (.inl (Int32.ofNat j)), some (.inl n), some (.inl (Int32.ofNat i))]) (st' := []) (m' := (c0_sec_m f, l)) rfl rfl (fl_bo rfl) rfl ?_
  refine fl_Tq.stp (pc' := 80) (lv' := [some (.inr (.inr (.inl (1, 1)))), some (.inl (mo + (c0_sec_v f))), some (.inl (Int32.ofNat j)), some (.inl n), some (.inl ((Int32.ofNat i) + (1 : Int32)))]) (st' := []) (m' := (c0_sec_m f, l)) rfl rfl (fl_bo rfl) rfl ?_
  refine fl_Tq.stp (pc' := 64) (lv' := [some (.inr (.inr (.inl (1, 1)))), some (.inl (mo + (c0_sec_v f))), some (.inl (Int32.ofNat j)), some (.inl n), some (.inl ((Int32.ofNat i) + (1 : Int32)))]) (st' := []) (m' := (c0_sec_m f, l)) rfl rfl (fl_bo rfl) rfl ?_
  exact k
theorem c0_drD {L : Nat} {xs : Nat → Int32} {f : t2_F} {l : t2_L} {Q : Option fl_V → fl_M → Prop} {mo n : Int32} {j i : Nat} (hk : ¬ ((Int32.ofNat i).toInt < n.toInt)) (k : fl_Tq (pw_P L xs) 56 4 [some (.inr (.inr (.inl (1, 1)))), some (.inl mo), some (.inl ((Int32.ofNat j) + (1 : Int32))), some (.inl n), some (.inl (Int32.ofNat i))] [] (f, l) Q) : fl_Tq (pw_P L xs) 56 64 [some (.inr (.inr (.inl (1, 1)))), some (.inl mo), some (.inl (Int32.ofNat j)), some (.inl n), some (.inl (Int32.ofNat i))] [] (f, l) Q := by
  refine fl_Tq.stp (pc' := 66) (lv' := [some (.inr (.inr (.inl (1, 1)))), some (.inl mo), some (.inl (Int32.ofNat j)), some (.inl n), some (.inl (Int32.ofNat i))]) (st' := [.inl (Int32.ofNat i)]) (m' := (f, l)) rfl rfl (fl_bo rfl) rfl ?_
  refine fl_Tq.stp (pc' := 67) (lv' := [some (.inr (.inr (.inl (1, 1)))), some (.inl mo), some (.inl (Int32.ofNat j)), some (.inl n), some (.inl (Int32.ofNat i))]) (st' := [.inl n, .inl (Int32.ofNat i)]) (m' := (f, l)) rfl rfl (fl_bo rfl) rfl ?_
  refine fl_Tq.jt rfl (fl_bo rfl) (c2_ge_t hk) rfl ?_
  refine fl_Tq.stp (pc' := 86) (lv' := [some (.inr (.inr (.inl (1, 1)))), some (.inl mo), some (.inl ((Int32.ofNat j) + (1 : Int32))), some (.inl n), some (.inl (Int32.ofNat i))]) (st' := []) (m' := (f, l)) rfl rfl (fl_bo rfl) rfl ?_
  refine fl_Tq.stp (pc' := 4) (lv' := [some (.inr (.inr (.inl (1, 1)))), some (.inl mo), some (.inl ((Int32.ofNat j) + (1 : Int32))), some (.inl n), some (.inl (Int32.ofNat i))]) (st' := []) (m' := (f, l)) rfl rfl (fl_bo rfl) rfl ?_
  exact k
theorem r_drA {L : Nat} {xs : Nat → Int32} {f : t2_F} {l : t2_L} {Q : Option fl_V → fl_M → Prop}   (k : fl_Tq (pw_P L xs) 266 4 [some (.inr (.inr (.inl (76, 277)))), some (.inl (0 : Int32)), some (.inl (0 : Int32)), none] [] (f, l) Q) : fl_Tq (pw_P L xs) 266 0 [some (.inr (.inr (.inl (76, 277)))), none, none, none] [] (f, l) Q := by
  refine fl_Tq.cI (c := (0 : Int32)) rfl (by decide +kernel) (fl_bo rfl) ?_
  refine fl_Tq.stp (pc' := 2) (lv' := [some (.inr (.inr (.inl (76, 277)))), some (.inl (0 : Int32)), none, none]) (st' := []) (m' := (f, l)) rfl rfl (fl_bo rfl) rfl ?_
  refine fl_Tq.cI (c := (0 : Int32)) rfl (by decide +kernel) (fl_bo rfl) ?_
  refine fl_Tq.stp (pc' := 4) (lv' := [some (.inr (.inr (.inl (76, 277)))), some (.inl (0 : Int32)), some (.inl (0 : Int32)), none]) (st' := []) (m' := (f, l)) rfl rfl (fl_bo rfl) rfl ?_
  exact k
theorem r_drB {L : Nat} {xs : Nat → Int32} {f : t2_F} {l : t2_L} {Q : Option fl_V → fl_M → Prop} {mo : Int32} {j : Nat} (hj : j < 24) (hk : (Int32.ofNat j).toInt < (f 280 19).toInt) (k : fl_Tq (pw_P L xs) 266 35 [some (.inr (.inr (.inl (76, 277)))), some (.inl mo), some (.inl (Int32.ofNat j)), some (.inl (0 : Int32))] [] (fl_row f 280 (upd (f 280) 54 (f 280 (119 + (2 * j)))), l) Q) : fl_Tq (pw_P L xs) 266 4 [some (.inr (.inr (.inl (76, 277)))), some (.inl mo), some (.inl (Int32.ofNat j)), none] [] (f, l) Q := by
  refine fl_Tq.stp (pc' := 5) (lv' := [some (.inr (.inr (.inl (76, 277)))), some (.inl mo), some (.inl (Int32.ofNat j)), none]) (st' := [.inl (Int32.ofNat j)]) (m' := (f, l)) rfl rfl (fl_bo rfl) rfl ?_
  refine fl_Tq.stp (pc' := 6) (lv' := [some (.inr (.inr (.inl (76, 277)))), some (.inl mo), some (.inl (Int32.ofNat j)), none]) (st' := [.inr (.inr (.inl (76, 277))), .inl (Int32.ofNat j)]) (m' := (f, l)) rfl rfl (fl_bo rfl) rfl ?_
  refine fl_Tq.stp (pc' := 9) (lv' := [some (.inr (.inr (.inl (76, 277)))), some (.inl mo), some (.inl (Int32.ofNat j)), none]) (st' := [.inr (.inr (.inl (79, 280))), .inl (Int32.ofNat j)]) (m' := (f, l)) rfl rfl (fl_bo rfl) rfl ?_
  refine fl_Tq.cB (c := (19 : Int32)) rfl (by decide +kernel) (fl_bo rfl) ?_
  refine fl_Tq.ldV (p := 280) (τ := 79) (n := 29780) (z := (0, 0, 0)) (k := 19) (v := f 280 19) rfl (fl_bo rfl) rfl (by decide +kernel) (by decide) rfl ?_
  refine fl_Tq.jf rfl (fl_bo rfl) (c2_ge_f hk) rfl ?_
  refine fl_Tq.stp (pc' := 16) (lv' := [some (.inr (.inr (.inl (76, 277)))), some (.inl mo), some (.inl (Int32.ofNat j)), none]) (st' := [.inr (.inr (.inl (76, 277)))]) (m' := (f, l)) rfl rfl (fl_bo rfl) rfl ?_
  refine fl_Tq.stp (pc' := 19) (lv' := [some (.inr (.inr (.inl (76, 277)))), some (.inl mo), some (.inl (Int32.ofNat j)), none]) (st' := [.inr (.inr (.inl (79, 280)))]) (m' := (f, l)) rfl rfl (fl_bo rfl) rfl ?_
  refine fl_Tq.cB (c := (54 : Int32)) rfl (by decide +kernel) (fl_bo rfl) ?_
  refine fl_Tq.stp (pc' := 22) (lv' := [some (.inr (.inr (.inl (76, 277)))), some (.inl mo), some (.inl (Int32.ofNat j)), none]) (st' := [.inr (.inr (.inl (76, 277))), .inl (54 : Int32), .inr (.inr (.inl (79, 280)))]) (m' := (f, l)) rfl rfl (fl_bo rfl) rfl ?_
  refine fl_Tq.stp (pc' := 25) (lv' := [some (.inr (.inr (.inl (76, 277)))), some (.inl mo), some (.inl (Int32.ofNat j)), none]) (st' := [.inr (.inr (.inl (79, 280))), .inl (54 : Int32), .inr (.inr (.inl (79, 280)))]) (m' := (f, l)) rfl rfl (fl_bo rfl) rfl ?_
  refine fl_Tq.cB (c := (119 : Int32)) rfl (by decide +kernel) (fl_bo rfl) ?_
  refine fl_Tq.cI (c := (2 : Int32)) rfl (by decide +kernel) (fl_bo rfl) ?_
  refine fl_Tq.stp (pc' := 29) (lv' := [some (.inr (.inr (.inl (76, 277)))), some (.inl mo), some (.inl (Int32.ofNat j)), none]) (st' := [.inl (Int32.ofNat j), .inl (2 : Int32), .inl (119 : Int32), .inr (.inr (.inl (79, 280))), .inl (54 : Int32), .inr (.inr (.inl (79, 280)))]) (m' := (f, l)) rfl rfl (fl_bo rfl) rfl ?_
  refine fl_Tq.stp (pc' := 30) (lv' := [some (.inr (.inr (.inl (76, 277)))), some (.inl mo), some (.inl (Int32.ofNat j)), none]) (st' := [.inl ((2 : Int32) * (Int32.ofNat j)), .inl (119 : Int32), .inr (.inr (.inl (79, 280))), .inl (54 : Int32), .inr (.inr (.inl (79, 280)))]) (m' := (f, l)) rfl rfl (fl_bo rfl) rfl ?_
  refine fl_Tq.stp (pc' := 31) (lv' := [some (.inr (.inr (.inl (76, 277)))), some (.inl mo), some (.inl (Int32.ofNat j)), none]) (st' := [.inl ((119 : Int32) + ((2 : Int32) * (Int32.ofNat j))), .inr (.inr (.inl (79, 280))), .inl (54 : Int32), .inr (.inr (.inl (79, 280)))]) (m' := (f, l)) rfl rfl (fl_bo rfl) rfl ?_
  refine fl_Tq.ldV (p := 280) (τ := 79) (n := 29780) (z := (0, 0, 0)) (k := 119 + (2 * j)) (v := f 280 (119 + (2 * j))) rfl (fl_bo rfl) rfl (t2_ia (by decide +kernel) (t2_im (by decide +kernel) (at_ofN (by omega)) (by omega)) (by omega)) (by omega) rfl ?_
  refine fl_Tq.svV (p := 280) (τ := 79) (n := 29780) (z := (0, 0, 0)) (k := 54) (m' := (fl_row f 280 (upd (f 280) 54 (f 280 (119 + (2 * j)))), l)) rfl (fl_bo rfl) rfl (by decide +kernel) (by decide) (t2_upn rfl) ?_
  refine fl_Tq.cI (c := (0 : Int32)) rfl (by decide +kernel) (fl_bo rfl) ?_
  refine fl_Tq.stp (pc' := 35) (lv' := [some (.inr (.inr (.inl (76, 277)))), some (.inl mo), some (.inl (Int32.ofNat j)), some (.inl (0 : Int32))]) (st' := []) (m' := (fl_row f 280 (upd (f 280) 54 (f 280 (119 + (2 * j)))), l)) rfl rfl (fl_bo rfl) rfl ?_
  exact k
theorem r_drE {L : Nat} {xs : Nat → Int32} {f : t2_F} {l : t2_L} {Q : Option fl_V → fl_M → Prop} {mo : Int32} {j : Nat} (hk : ¬ ((Int32.ofNat j).toInt < (f 280 19).toInt)) (k : Q (some (.inl mo)) (f, l)) : fl_Tq (pw_P L xs) 266 4 [some (.inr (.inr (.inl (76, 277)))), some (.inl mo), some (.inl (Int32.ofNat j)), none] [] (f, l) Q := by
  refine fl_Tq.stp (pc' := 5) (lv' := [some (.inr (.inr (.inl (76, 277)))), some (.inl mo), some (.inl (Int32.ofNat j)), none]) (st' := [.inl (Int32.ofNat j)]) (m' := (f, l)) rfl rfl (fl_bo rfl) rfl ?_
  refine fl_Tq.stp (pc' := 6) (lv' := [some (.inr (.inr (.inl (76, 277)))), some (.inl mo), some (.inl (Int32.ofNat j)), none]) (st' := [.inr (.inr (.inl (76, 277))), .inl (Int32.ofNat j)]) (m' := (f, l)) rfl rfl (fl_bo rfl) rfl ?_
  refine fl_Tq.stp (pc' := 9) (lv' := [some (.inr (.inr (.inl (76, 277)))), some (.inl mo), some (.inl (Int32.ofNat j)), none]) (st' := [.inr (.inr (.inl (79, 280))), .inl (Int32.ofNat j)]) (m' := (f, l)) rfl rfl (fl_bo rfl) rfl ?_
  refine fl_Tq.cB (c := (19 : Int32)) rfl (by decide +kernel) (fl_bo rfl) ?_
  refine fl_Tq.ldV (p := 280) (τ := 79) (n := 29780) (z := (0, 0, 0)) (k := 19) (v := f 280 19) rfl (fl_bo rfl) rfl (by decide +kernel) (by decide) rfl ?_
  refine fl_Tq.jt rfl (fl_bo rfl) (c2_ge_t hk) rfl ?_
  refine fl_Tq.stp (pc' := 85) (lv' := [some (.inr (.inr (.inl (76, 277)))), some (.inl mo), some (.inl (Int32.ofNat j)), none]) (st' := [.inl mo]) (m' := (f, l)) rfl rfl (fl_bo rfl) rfl ?_
  exact fl_Tq.ret rfl rfl rfl k
theorem r_drC {L : Nat} {xs : Nat → Int32} {f : t2_F} {l : t2_L} {Q : Option fl_V → fl_M → Prop} {mo : Int32} {j i : Nat} {fc : t2_F} (hj : j < 24) (h : c0_I fc f) (ht : (f 280 7).toInt < 9999) (hr : t2_RS f) (hp : f 277 7 = 0) (hk : (Int32.ofNat i).toInt < (f 280 ((119 + (2 * j)) + 1)).toInt) (hl : (f 280 7).toInt < (9999 : Int32).toInt) (k : fl_Tq (pw_P L xs) 266 35 [some (.inr (.inr (.inl (76, 277)))), some (.inl (mo + (r_sec_v f))), some (.inl (Int32.ofNat j)), some (.inl ((Int32.ofNat i) + (1 : Int32)))] [] (r_sec_m f, l) Q) : fl_Tq (pw_P L xs) 266 35 [some (.inr (.inr (.inl (76, 277)))), some (.inl mo), some (.inl (Int32.ofNat j)), some (.inl (Int32.ofNat i))] [] (f, l) Q := by
  refine fl_Tq.stp (pc' := 36) (lv' := [some (.inr (.inr (.inl (76, 277)))), some (.inl mo), some (.inl (Int32.ofNat j)), some (.inl (Int32.ofNat i))]) (st' := [.inl (Int32.ofNat i)]) (m' := (f, l)) rfl rfl (fl_bo rfl) rfl ?_
  refine fl_Tq.stp (pc' := 37) (lv' := [some (.inr (.inr (.inl (76, 277)))), some (.inl mo), some (.inl (Int32.ofNat j)), some (.inl (Int32.ofNat i))]) (st' := [.inr (.inr (.inl (76, 277))), .inl (Int32.ofNat i)]) (m' := (f, l)) rfl rfl (fl_bo rfl) rfl ?_
  refine fl_Tq.stp (pc' := 40) (lv' := [some (.inr (.inr (.inl (76, 277)))), some (.inl mo), some (.inl (Int32.ofNat j)), some (.inl (Int32.ofNat i))]) (st' := [.inr (.inr (.inl (79, 280))), .inl (Int32.ofNat i)]) (m' := (f, l)) rfl rfl (fl_bo rfl) rfl ?_
  refine fl_Tq.cB (c := (119 : Int32)) rfl (by decide +kernel) (fl_bo rfl) ?_
  refine fl_Tq.cI (c := (2 : Int32)) rfl (by decide +kernel) (fl_bo rfl) ?_
  refine fl_Tq.stp (pc' := 44) (lv' := [some (.inr (.inr (.inl (76, 277)))), some (.inl mo), some (.inl (Int32.ofNat j)), some (.inl (Int32.ofNat i))]) (st' := [.inl (Int32.ofNat j), .inl (2 : Int32), .inl (119 : Int32), .inr (.inr (.inl (79, 280))), .inl (Int32.ofNat i)]) (m' := (f, l)) rfl rfl (fl_bo rfl) rfl ?_
  refine fl_Tq.stp (pc' := 45) (lv' := [some (.inr (.inr (.inl (76, 277)))), some (.inl mo), some (.inl (Int32.ofNat j)), some (.inl (Int32.ofNat i))]) (st' := [.inl ((2 : Int32) * (Int32.ofNat j)), .inl (119 : Int32), .inr (.inr (.inl (79, 280))), .inl (Int32.ofNat i)]) (m' := (f, l)) rfl rfl (fl_bo rfl) rfl ?_
  refine fl_Tq.stp (pc' := 46) (lv' := [some (.inr (.inr (.inl (76, 277)))), some (.inl mo), some (.inl (Int32.ofNat j)), some (.inl (Int32.ofNat i))]) (st' := [.inl ((119 : Int32) + ((2 : Int32) * (Int32.ofNat j))), .inr (.inr (.inl (79, 280))), .inl (Int32.ofNat i)]) (m' := (f, l)) rfl rfl (fl_bo rfl) rfl ?_
  refine fl_Tq.cI (c := (1 : Int32)) rfl (by decide +kernel) (fl_bo rfl) ?_
  refine fl_Tq.stp (pc' := 48) (lv' := [some (.inr (.inr (.inl (76, 277)))), some (.inl mo), some (.inl (Int32.ofNat j)), some (.inl (Int32.ofNat i))]) (st' := [.inl (((119 : Int32) + ((2 : Int32) * (Int32.ofNat j))) + (1 : Int32)), .inr (.inr (.inl (79, 280))), .inl (Int32.ofNat i)]) (m' := (f, l)) rfl rfl (fl_bo rfl) rfl ?_
  refine fl_Tq.ldV (p := 280) (τ := 79) (n := 29780) (z := (0, 0, 0)) (k := (119 + (2 * j)) + 1) (v := f 280 ((119 + (2 * j)) + 1)) rfl (fl_bo rfl) rfl (t2_ia (t2_ia (by decide +kernel) (t2_im (by decide +kernel) (at_ofN (by omega)) (by omega)) (by omega)) (by decide +kernel) (by omega)) (by omega) rfl ?_
  refine fl_Tq.jf rfl (fl_bo rfl) (c2_ge_f hk) rfl ?_
  refine fl_Tq.stp (pc' := 53) (lv' := [some (.inr (.inr (.inl (76, 277)))), some (.inl mo), some (.inl (Int32.ofNat j)), some (.inl (Int32.ofNat i))]) (st' := [.inr (.inr (.inl (76, 277)))]) (m' := (f, l)) rfl rfl (fl_bo rfl) rfl ?_
  refine fl_Tq.stp (pc' := 56) (lv' := [some (.inr (.inr (.inl (76, 277)))), some (.inl mo), some (.inl (Int32.ofNat j)), some (.inl (Int32.ofNat i))]) (st' := [.inr (.inr (.inl (79, 280)))]) (m' := (f, l)) rfl rfl (fl_bo rfl) rfl ?_
  refine fl_Tq.cB (c := (7 : Int32)) rfl (by decide +kernel) (fl_bo rfl) ?_
  refine fl_Tq.ldV (p := 280) (τ := 79) (n := 29780) (z := (0, 0, 0)) (k := 7) (v := f 280 7) rfl (fl_bo rfl) rfl (by decide +kernel) (by decide) rfl ?_
  refine fl_Tq.cS (c := (9999 : Int32)) rfl (by decide +kernel) (fl_bo rfl) ?_
  refine fl_Tq.jf rfl (fl_bo rfl) (c2_ge_f hl) rfl ?_
  refine fl_Tq.stp (pc' := 66) (lv' := [some (.inr (.inr (.inl (76, 277)))), some (.inl mo), some (.inl (Int32.ofNat j)), some (.inl (Int32.ofNat i))]) (st' := [.inl mo]) (m' := (f, l)) rfl rfl (fl_bo rfl) rfl ?_
  refine fl_Tq.stp (pc' := 67) (lv' := [some (.inr (.inr (.inl (76, 277)))), some (.inl mo), some (.inl (Int32.ofNat j)), some (.inl (Int32.ofNat i))]) (st' := [.inr (.inr (.inl (76, 277))), .inl mo]) (m' := (f, l)) rfl rfl (fl_bo rfl) rfl ?_
  refine fl_Tq.cal rfl rfl (fl_bo rfl) rfl ?_
  refine c0_rsec_q h ht hr hp ?_
  show fl_Tq _ 266 70 [some (.inr (.inr (.inl (76, 277)))), some (.inl mo), some (.inl (Int32.ofNat j)), some (.inl (Int32.ofNat i))] [.inl (r_sec_v f), .inl mo] (r_sec_m f, l) _
  refine fl_Tq.stp (pc' := 71) (lv' := [some (.inr (.inr (.inl (76, 277)))), some (.inl mo), some (.inl (Int32.ofNat j)), some (.inl (Int32.ofNat i))]) (st' := [.inl (mo + (r_sec_v f))]) (m' := (r_sec_m f, l)) rfl rfl (fl_bo rfl) rfl ?_
  refine fl_Tq.stp (pc' := 72) (lv' := [some (.inr (.inr (.inl (76, 277)))), some (.inl (mo + (r_sec_v f))), some (.inl (Int32.ofNat j)), some (.inl (Int32.ofNat i))]) (st' := []) (m' := (r_sec_m f, l)) rfl rfl (fl_bo rfl) rfl ?_
  refine fl_Tq.stp (pc' := 75) (lv' := [some (.inr (.inr (.inl (76, 277)))), some (.inl (mo + (r_sec_v f))), some (.inl (Int32.ofNat j)), some (.inl ((Int32.ofNat i) + (1 : Int32)))]) (st' := []) (m' := (r_sec_m f, l)) rfl rfl (fl_bo rfl) rfl ?_
  refine fl_Tq.stp (pc' := 35) (lv' := [some (.inr (.inr (.inl (76, 277)))), some (.inl (mo + (r_sec_v f))), some (.inl (Int32.ofNat j)), some (.inl ((Int32.ofNat i) + (1 : Int32)))]) (st' := []) (m' := (r_sec_m f, l)) rfl rfl (fl_bo rfl) rfl ?_
  exact k
theorem r_drD {L : Nat} {xs : Nat → Int32} {f : t2_F} {l : t2_L} {Q : Option fl_V → fl_M → Prop} {mo : Int32} {j i : Nat} (hj : j < 24) (hk : ¬ ((Int32.ofNat i).toInt < (f 280 ((119 + (2 * j)) + 1)).toInt)) (k : fl_Tq (pw_P L xs) 266 4 [some (.inr (.inr (.inl (76, 277)))), some (.inl mo), some (.inl ((Int32.ofNat j) + (1 : Int32))), some (.inl (Int32.ofNat i))] [] (f, l) Q) : fl_Tq (pw_P L xs) 266 35 [some (.inr (.inr (.inl (76, 277)))), some (.inl mo), some (.inl (Int32.ofNat j)), some (.inl (Int32.ofNat i))] [] (f, l) Q := by
  refine fl_Tq.stp (pc' := 36) (lv' := [some (.inr (.inr (.inl (76, 277)))), some (.inl mo), some (.inl (Int32.ofNat j)), some (.inl (Int32.ofNat i))]) (st' := [.inl (Int32.ofNat i)]) (m' := (f, l)) rfl rfl (fl_bo rfl) rfl ?_
  refine fl_Tq.stp (pc' := 37) (lv' := [some (.inr (.inr (.inl (76, 277)))), some (.inl mo), some (.inl (Int32.ofNat j)), some (.inl (Int32.ofNat i))]) (st' := [.inr (.inr (.inl (76, 277))), .inl (Int32.ofNat i)]) (m' := (f, l)) rfl rfl (fl_bo rfl) rfl ?_
  refine fl_Tq.stp (pc' := 40) (lv' := [some (.inr (.inr (.inl (76, 277)))), some (.inl mo), some (.inl (Int32.ofNat j)), some (.inl (Int32.ofNat i))]) (st' := [.inr (.inr (.inl (79, 280))), .inl (Int32.ofNat i)]) (m' := (f, l)) rfl rfl (fl_bo rfl) rfl ?_
  refine fl_Tq.cB (c := (119 : Int32)) rfl (by decide +kernel) (fl_bo rfl) ?_
  refine fl_Tq.cI (c := (2 : Int32)) rfl (by decide +kernel) (fl_bo rfl) ?_
  refine fl_Tq.stp (pc' := 44) (lv' := [some (.inr (.inr (.inl (76, 277)))), some (.inl mo), some (.inl (Int32.ofNat j)), some (.inl (Int32.ofNat i))]) (st' := [.inl (Int32.ofNat j), .inl (2 : Int32), .inl (119 : Int32), .inr (.inr (.inl (79, 280))), .inl (Int32.ofNat i)]) (m' := (f, l)) rfl rfl (fl_bo rfl) rfl ?_
  refine fl_Tq.stp (pc' := 45) (lv' := [some (.inr (.inr (.inl (76, 277)))), some (.inl mo), some (.inl (Int32.ofNat j)), some (.inl (Int32.ofNat i))]) (st' := [.inl ((2 : Int32) * (Int32.ofNat j)), .inl (119 : Int32), .inr (.inr (.inl (79, 280))), .inl (Int32.ofNat i)]) (m' := (f, l)) rfl rfl (fl_bo rfl) rfl ?_
  refine fl_Tq.stp (pc' := 46) (lv' := [some (.inr (.inr (.inl (76, 277)))), some (.inl mo), some (.inl (Int32.ofNat j)), some (.inl (Int32.ofNat i))]) (st' := [.inl ((119 : Int32) + ((2 : Int32) * (Int32.ofNat j))), .inr (.inr (.inl (79, 280))), .inl (Int32.ofNat i)]) (m' := (f, l)) rfl rfl (fl_bo rfl) rfl ?_
  refine fl_Tq.cI (c := (1 : Int32)) rfl (by decide +kernel) (fl_bo rfl) ?_
  refine fl_Tq.stp (pc' := 48) (lv' := [some (.inr (.inr (.inl (76, 277)))), some (.inl mo), some (.inl (Int32.ofNat j)), some (.inl (Int32.ofNat i))]) (st' := [.inl (((119 : Int32) + ((2 : Int32) * (Int32.ofNat j))) + (1 : Int32)), .inr (.inr (.inl (79, 280))), .inl (Int32.ofNat i)]) (m' := (f, l)) rfl rfl (fl_bo rfl) rfl ?_
  refine fl_Tq.ldV (p := 280) (τ := 79) (n := 29780) (z := (0, 0, 0)) (k := (119 + (2 * j)) + 1) (v := f 280 ((119 + (2 * j)) + 1)) rfl (fl_bo rfl) rfl (t2_ia (t2_ia (by decide +kernel) (t2_im (by decide +kernel) (at_ofN (by omega)) (by omega)) (by omega)) (by decide +kernel) (by omega)) (by omega) rfl ?_
  refine fl_Tq.jt rfl (fl_bo rfl) (c2_ge_t hk) rfl ?_
  refine fl_Tq.stp (pc' := 81) (lv' := [some (.inr (.inr (.inl (76, 277)))), some (.inl mo), some (.inl ((Int32.ofNat j) + (1 : Int32))), some (.inl (Int32.ofNat i))]) (st' := []) (m' := (f, l)) rfl rfl (fl_bo rfl) rfl ?_
  refine fl_Tq.stp (pc' := 4) (lv' := [some (.inr (.inr (.inl (76, 277)))), some (.inl mo), some (.inl ((Int32.ofNat j) + (1 : Int32))), some (.inl (Int32.ofNat i))]) (st' := []) (m' := (f, l)) rfl rfl (fl_bo rfl) rfl ?_
  exact k
theorem r_drD2 {L : Nat} {xs : Nat → Int32} {f : t2_F} {l : t2_L} {Q : Option fl_V → fl_M → Prop} {mo : Int32} {j i : Nat} (hj : j < 24) (hk : (Int32.ofNat i).toInt < (f 280 ((119 + (2 * j)) + 1)).toInt) (hl : ¬ ((f 280 7).toInt < (9999 : Int32).toInt)) (k : fl_Tq (pw_P L xs) 266 4 [some (.inr (.inr (.inl (76, 277)))), some (.inl mo), some (.inl ((Int32.ofNat j) + (1 : Int32))), some (.inl (Int32.ofNat i))] [] (f, l) Q) : fl_Tq (pw_P L xs) 266 35 [some (.inr (.inr (.inl (76, 277)))), some (.inl mo), some (.inl (Int32.ofNat j)), some (.inl (Int32.ofNat i))] [] (f, l) Q := by
  refine fl_Tq.stp (pc' := 36) (lv' := [some (.inr (.inr (.inl (76, 277)))), some (.inl mo), some (.inl (Int32.ofNat j)), some (.inl (Int32.ofNat i))]) (st' := [.inl (Int32.ofNat i)]) (m' := (f, l)) rfl rfl (fl_bo rfl) rfl ?_
  refine fl_Tq.stp (pc' := 37) (lv' := [some (.inr (.inr (.inl (76, 277)))), some (.inl mo), some (.inl (Int32.ofNat j)), some (.inl (Int32.ofNat i))]) (st' := [.inr (.inr (.inl (76, 277))), .inl (Int32.ofNat i)]) (m' := (f, l)) rfl rfl (fl_bo rfl) rfl ?_
  refine fl_Tq.stp (pc' := 40) (lv' := [some (.inr (.inr (.inl (76, 277)))), some (.inl mo), some (.inl (Int32.ofNat j)), some (.inl (Int32.ofNat i))]) (st' := [.inr (.inr (.inl (79, 280))), .inl (Int32.ofNat i)]) (m' := (f, l)) rfl rfl (fl_bo rfl) rfl ?_
  refine fl_Tq.cB (c := (119 : Int32)) rfl (by decide +kernel) (fl_bo rfl) ?_
  refine fl_Tq.cI (c := (2 : Int32)) rfl (by decide +kernel) (fl_bo rfl) ?_
  refine fl_Tq.stp (pc' := 44) (lv' := [some (.inr (.inr (.inl (76, 277)))), some (.inl mo), some (.inl (Int32.ofNat j)), some (.inl (Int32.ofNat i))]) (st' := [.inl (Int32.ofNat j), .inl (2 : Int32), .inl (119 : Int32), .inr (.inr (.inl (79, 280))), .inl (Int32.ofNat i)]) (m' := (f, l)) rfl rfl (fl_bo rfl) rfl ?_
  refine fl_Tq.stp (pc' := 45) (lv' := [some (.inr (.inr (.inl (76, 277)))), some (.inl mo), some (.inl (Int32.ofNat j)), some (.inl (Int32.ofNat i))]) (st' := [.inl ((2 : Int32) * (Int32.ofNat j)), .inl (119 : Int32), .inr (.inr (.inl (79, 280))), .inl (Int32.ofNat i)]) (m' := (f, l)) rfl rfl (fl_bo rfl) rfl ?_
  refine fl_Tq.stp (pc' := 46) (lv' := [some (.inr (.inr (.inl (76, 277)))), some (.inl mo), some (.inl (Int32.ofNat j)), some (.inl (Int32.ofNat i))]) (st' := [.inl ((119 : Int32) + ((2 : Int32) * (Int32.ofNat j))), .inr (.inr (.inl (79, 280))), .inl (Int32.ofNat i)]) (m' := (f, l)) rfl rfl (fl_bo rfl) rfl ?_
  refine fl_Tq.cI (c := (1 : Int32)) rfl (by decide +kernel) (fl_bo rfl) ?_
  refine fl_Tq.stp (pc' := 48) (lv' := [some (.inr (.inr (.inl (76, 277)))), some (.inl mo), some (.inl (Int32.ofNat j)), some (.inl (Int32.ofNat i))]) (st' := [.inl (((119 : Int32) + ((2 : Int32) * (Int32.ofNat j))) + (1 : Int32)), .inr (.inr (.inl (79, 280))), .inl (Int32.ofNat i)]) (m' := (f, l)) rfl rfl (fl_bo rfl) rfl ?_
  refine fl_Tq.ldV (p := 280) (τ := 79) (n := 29780) (z := (0, 0, 0)) (k := (119 + (2 * j)) + 1) (v := f 280 ((119 + (2 * j)) + 1)) rfl (fl_bo rfl) rfl (t2_ia (t2_ia (by decide +kernel) (t2_im (by decide +kernel) (at_ofN (by omega)) (by omega)) (by omega)) (by decide +kernel) (by omega)) (by omega) rfl ?_
  refine fl_Tq.jf rfl (fl_bo rfl) (c2_ge_f hk) rfl ?_
  refine fl_Tq.stp (pc' := 53) (lv' := [some (.inr (.inr (.inl (76, 277)))), some (.inl mo), some (.inl (Int32.ofNat j)), some (.inl (Int32.ofNat i))]) (st' := [.inr (.inr (.inl (76, 277)))]) (m' := (f, l)) rfl rfl (fl_bo rfl) rfl ?_
  refine fl_Tq.stp (pc' := 56) (lv' := [some (.inr (.inr (.inl (76, 277)))), some (.inl mo), some (.inl (Int32.ofNat j)), some (.inl (Int32.ofNat i))]) (st' := [.inr (.inr (.inl (79, 280)))]) (m' := (f, l)) rfl rfl (fl_bo rfl) rfl ?_
  refine fl_Tq.cB (c := (7 : Int32)) rfl (by decide +kernel) (fl_bo rfl) ?_
  refine fl_Tq.ldV (p := 280) (τ := 79) (n := 29780) (z := (0, 0, 0)) (k := 7) (v := f 280 7) rfl (fl_bo rfl) rfl (by decide +kernel) (by decide) rfl ?_
  refine fl_Tq.cS (c := (9999 : Int32)) rfl (by decide +kernel) (fl_bo rfl) ?_
  refine fl_Tq.jt rfl (fl_bo rfl) (c2_ge_t hl) rfl ?_
  refine fl_Tq.stp (pc' := 81) (lv' := [some (.inr (.inr (.inl (76, 277)))), some (.inl mo), some (.inl ((Int32.ofNat j) + (1 : Int32))), some (.inl (Int32.ofNat i))]) (st' := []) (m' := (f, l)) rfl rfl (fl_bo rfl) rfl ?_
  refine fl_Tq.stp (pc' := 4) (lv' := [some (.inr (.inr (.inl (76, 277)))), some (.inl mo), some (.inl ((Int32.ofNat j) + (1 : Int32))), some (.inl (Int32.ofNat i))]) (st' := []) (m' := (f, l)) rfl rfl (fl_bo rfl) rfl ?_
  exact k
