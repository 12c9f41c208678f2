theorem c0_secsA {L : Nat} {xs : Nat → Int32} {f : t2_F} {l : t2_L} {Q : Option fl_V → fl_M → Prop} {n : Int32}  (k : fl_Tq (pw_P L xs) 55 4 [some (.inr (.inr (.inl (1, 1)))), some (.inl n), some (.inl (0 : Int32)), some (.inl (0 : Int32))] [] (f, l) Q) : fl_Tq (pw_P L xs) 55 0 [some (.inr (.inr (.inl (1, 1)))), some (.inl n), none, none] [] (f, l) Q := by
  refine fl_Tq.cI (c := (0 : Int32)) rfl (by decide +kernel) (fl_bo rfl) ?_
  refine fl_Tq.stp (pc' := 2) (lv' := [some (.inr (.inr (.inl (1, 1)))), some (.inl n), some (.inl (0 : Int32)), none]) (st' := []) (m' := (f, l)) rfl rfl (fl_bo rfl) rfl ?_
  refine fl_Tq.cI (c := (0 : Int32)) rfl (by decide +kernel) (fl_bo rfl) ?_
  refine fl_Tq.stp (pc' := 4) (lv' := [some (.inr (.inr (.inl (1, 1)))), some (.inl n), some (.inl (0 : Int32)), some (.inl (0 : Int32))]) (st' := []) (m' := (f, l)) rfl rfl (fl_bo rfl) rfl ?_
  exact k
theorem c0_secsB {L : Nat} {xs : Nat → Int32} {f : t2_F} {l : t2_L} {Q : Option fl_V → fl_M → Prop} {n more : Int32} {j : Nat} {fr : t2_F} (h : c0_I f fr) (ht : (fr 280 7).toInt < 9999) (hj : c0_J f) (hk : (Int32.ofNat j).toInt < n.toInt) (k : fl_Tq (pw_P L xs) 55 4 [some (.inr (.inr (.inl (1, 1)))), some (.inl n), some (.inl (more + (c0_sec_v f))), some (.inl ((Int32.ofNat j) + (1 : Int32)))] [] (c0_sec_m f, l) Q) : fl_Tq (pw_P L xs) 55 4 [some (.inr (.inr (.inl (1, 1)))), some (.inl n), some (.inl more), some (.inl (Int32.ofNat j))] [] (f, l) Q := by
  refine fl_Tq.stp (pc' := 5) (lv' := [some (.inr (.inr (.inl (1, 1)))), some (.inl n), some (.inl more), some (.inl (Int32.ofNat j))]) (st' := [.inl (Int32.ofNat j)]) (m' := (f, l)) rfl rfl (fl_bo rfl) rfl ?_
  refine fl_Tq.stp (pc' := 6) (lv' := [some (.inr (.inr (.inl (1, 1)))), some (.inl n), some (.inl more), some (.inl (Int32.ofNat j))]) (st' := [.inl n, .inl (Int32.ofNat j)]) (m' := (f, l)) rfl rfl (fl_bo rfl) rfl ?_
  refine fl_Tq.jf rfl (fl_bo rfl) (c2_ge_f hk) rfl ?_
  refine fl_Tq.stp (pc' := 10) (lv' := [some (.inr (.inr (.inl (1, 1)))), some (.inl n), some (.inl more), some (.inl (Int32.ofNat j))]) (st' := [.inl more]) (m' := (f, l)) rfl rfl (fl_bo rfl) rfl ?_
  refine fl_Tq.stp (pc' := 11) (lv' := [some (.inr (.inr (.inl (1, 1)))), some (.inl n), some (.inl more), some (.inl (Int32.ofNat j))]) (st' := [.inr (.inr (.inl (1, 1))), .inl more]) (m' := (f, l)) rfl rfl (fl_bo rfl) rfl ?_
  refine fl_Tq.cal rfl rfl (fl_bo rfl) rfl ?_
  refine c0_sec_q h ht hj ?_
  show fl_Tq _ 55 14 [some (.inr (.inr (.inl (1, 1)))), some (.inl n), some (.inl more), some (.inl (Int32.ofNat j))] [.inl (c0_sec_v f), .inl more] (c0_sec_m f, l) _
  refine fl_Tq.stp (pc' := 15) (lv' := [some (.inr (.inr (.inl (1, 1)))), some (.inl n), some (.inl more), some (.inl (Int32.ofNat j))]) (st' := [.inl (more + (c0_sec_v f))]) (m' := (c0_sec_m f, l)) rfl rfl (fl_bo rfl) rfl ?_
  refine fl_Tq.stp (pc' := 16) (lv' := [some (.inr (.inr (.inl (1, 1)))), some (.inl n), some (.inl (more + (c0_sec_v f))), some (.inl (Int32.ofNat j))]) (st' := []) (m' := (c0_sec_m f, l)) rfl rfl (fl_bo rfl) rfl ?_
  refine fl_Tq.stp (pc' := 19) (lv' := [some (.inr (.inr (.inl (1, 1)))), some (.inl n), some (.inl (more + (c0_sec_v f))), some (.inl ((Int32.ofNat j) + (1 : Int32)))]) (st' := []) (m' := (c0_sec_m f, l)) rfl rfl (fl_bo rfl) rfl ?_
  refine fl_Tq.stp (pc' := 4) (lv' := [some (.inr (.inr (.inl (1, 1)))), some (.inl n), some (.inl (more + (c0_sec_v f))), some (.inl ((Int32.ofNat j) + (1 : Int32)))]) (st' := []) (m' := (c0_sec_m f, l)) rfl rfl (fl_bo rfl) rfl ?_
  exact k
theorem c0_secsC {L : Nat} {xs : Nat → Int32} {f : t2_F} {l : t2_L} {Q : Option fl_V → fl_M → Prop} {n more : Int32} {j : Nat} (hk : ¬ ((Int32.ofNat j).toInt < n.toInt)) (k : Q (some (.inl more)) (f, l)) : fl_Tq (pw_P L xs) 55 4 [some (.inr (.inr (.inl (1, 1)))), some (.inl n), some (.inl more), some (.inl (Int32.ofNat j))] [] (f, l) Q := by
  refine fl_Tq.stp (pc' := 5) (lv' := [some (.inr (.inr (.inl (1, 1)))), some (.inl n), some (.inl more), some (.inl (Int32.ofNat j))]) (st' := [.inl (Int32.ofNat j)]) (m' := (f, l)) rfl rfl (fl_bo rfl) rfl ?_
  refine fl_Tq.stp (pc' := 6) (lv' := [some (.inr (.inr (.inl (1, 1)))), some (.inl n), some (.inl more), some (.inl (Int32.ofNat j))]) (st' := [.inl n, .inl (Int32.ofNat j)]) (m' := (f, l)) rfl rfl (fl_bo rfl) rfl ?_
  refine fl_Tq.jt rfl (fl_bo rfl) (c2_ge_t hk) rfl ?_
  refine fl_Tq.stp (pc' := 23) (lv' := [some (.inr (.inr (.inl (1, 1)))), some (.inl n), some (.inl more), some (.inl (Int32.ofNat j))]) (st' := [.inl more]) (m' := (f, l)) rfl rfl (fl_bo rfl) rfl ?_
  exact fl_Tq.ret rfl rfl rfl k
theorem r_secsA {L : Nat} {xs : Nat → Int32} {f : t2_F} {l : t2_L} {Q : Option fl_V → fl_M → Prop} {n : Int32}  (k : fl_Tq (pw_P L xs) 248 4 [some (.inr (.inr (.inl (76, 277)))), some (.inl n), some (.inl (0 : Int32)), some (.inl (0 : Int32))] [] (f, l) Q) : fl_Tq (pw_P L xs) 248 0 [some (.inr (.inr (.inl (76, 277)))), some (.inl n), none, none] [] (f, l) Q := by
  refine fl_Tq.cI (c := (0 : Int32)) rfl (by decide +kernel) (fl_bo rfl) ?_
  refine fl_Tq.stp (pc' := 2) (lv' := [some (.inr (.inr (.inl (76, 277)))), some (.inl n), some (.inl (0 : Int32)), none]) (st' := []) (m' := (f, l)) rfl rfl (fl_bo rfl) rfl ?_
  refine fl_Tq.cI (c := (0 : Int32)) rfl (by decide +kernel) (fl_bo rfl) ?_
  refine fl_Tq.stp (pc' := 4) (lv' := [some (.inr (.inr (.inl (76, 277)))), some (.inl n), some (.inl (0 : Int32)), some (.inl (0 : Int32))]) (st' := []) (m' := (f, l)) rfl rfl (fl_bo rfl) rfl ?_
  exact k
theorem r_secsB {L : Nat} {xs : Nat → Int32} {f : t2_F} {l : t2_L} {Q : Option fl_V → fl_M → Prop} {n more : Int32} {j : Nat} {fc : t2_F} (h : c0_I fc f) (ht : (f 280 7).toInt < 9999) (hr : t2_RS f) (hp : f 277 7 = 0) (hk : (Int32.ofNat j).toInt < n.toInt) (k : fl_Tq (pw_P L xs) 248 4 [some (.inr (.inr (.inl (76, 277)))), some (.inl n), some (.inl (more + (r_sec_v f))), some (.inl ((Int32.ofNat j) + (1 : Int32)))] [] (r_sec_m f, l) Q) : fl_Tq (pw_P L xs) 248 4 [some (.inr (.inr (.inl (76, 277)))), some (.inl n), some (.inl more), some (.inl (Int32.ofNat j))] [] (f, l) Q := by
  refine fl_Tq.stp (pc' := 5) (lv' := [some (.inr (.inr (.inl (76, 277)))), some (.inl n), some (.inl more), some (.inl (Int32.ofNat j))]) (st' := [.inl (Int32.ofNat j)]) (m' := (f, l)) rfl rfl (fl_bo rfl) rfl ?_
  refine fl_Tq.stp (pc' := 6) (lv' := [some (.inr (.inr (.inl (76, 277)))), some (.inl n), some (.inl more), some (.inl (Int32.ofNat j))]) (st' := [.inl n, .inl (Int32.ofNat j)]) (m' := (f, l)) rfl rfl (fl_bo rfl) rfl ?_
  refine fl_Tq.jf rfl (fl_bo rfl) (c2_ge_f hk) rfl ?_
  refine fl_Tq.stp (pc' := 10) (lv' := [some (.inr (.inr (.inl (76, 277)))), some (.inl n), some (.inl more), some (.inl (Int32.ofNat j))]) (st' := [.inl more]) (m' := (f, l)) rfl rfl (fl_bo rfl) rfl ?_
  refine fl_Tq.stp (pc' := 11) (lv' := [some (.inr (.inr (.inl (76, 277)))), some (.inl n), some (.inl more), some (.inl (Int32.ofNat j))]) (st' := [.inr (.inr (.inl (76, 277))), .inl more]) (m' := (f, l)) rfl rfl (fl_bo rfl) rfl ?_
  refine fl_Tq.cal rfl rfl (fl_bo rfl) rfl ?_
  refine c0_rsec_q h ht hr hp ?_
  show fl_Tq _ 248 14 [some (.inr (.inr (.inl (76, 277)))), some (.inl n), some (.inl more), some (.inl (Int32.ofNat j))] [.inl (r_sec_v f), .inl more] (r_sec_m f, l) _
  refine fl_Tq.stp (pc' := 15) (lv' := [some (.inr (.inr (.inl (76, 277)))), some (.inl n), some (.inl more), some (.inl (Int32.ofNat j))]) (st' := [.inl (more + (r_sec_v f))]) (m' := (r_sec_m f, l)) rfl rfl (fl_bo rfl) rfl ?_
  refine fl_Tq.stp (pc' := 16) (lv' := [some (.inr (.inr (.inl (76, 277)))), some (.inl n), some (.inl (more + (r_sec_v f))), some (.inl (Int32.ofNat j))]) (st' := []) (m' := (r_sec_m f, l)) rfl rfl (fl_bo rfl) rfl ?_
  refine fl_Tq.stp (pc' := 19) (lv' := [some (.inr (.inr (.inl (76, 277)))), some (.inl n), some (.inl (more + (r_sec_v f))), some (.inl ((Int32.ofNat j) + (1 : Int32)))]) (st' := []) (m' := (r_sec_m f, l)) rfl rfl (fl_bo rfl) rfl ?_
  refine fl_Tq.stp (pc' := 4) (lv' := [some (.inr (.inr (.inl (76, 277)))), some (.inl n), some (.inl (more + (r_sec_v f))), some (.inl ((Int32.ofNat j) + (1 : Int32)))]) (st' := []) (m' := (r_sec_m f, l)) rfl rfl (fl_bo rfl) rfl ?_
  exact k
theorem r_secsC {L : Nat} {xs : Nat → Int32} {f : t2_F} {l : t2_L} {Q : Option fl_V → fl_M → Prop} {n more : Int32} {j : Nat} (hk : ¬ ((Int32.ofNat j).toInt < n.toInt)) (k : Q (some (.inl more)) (f, l)) : fl_Tq (pw_P L xs) 248 4 [some (.inr (.inr (.inl (76, 277)))), some (.inl n), some (.inl more), some (.inl (Int32.ofNat j))] [] (f, l) Q := by
  refine fl_Tq.stp (pc' := 5) (lv' := [some (.inr (.inr (.inl (76, 277)))), some (.inl n), some (.inl more), some (.inl (Int32.ofNat j))]) (st' := [.inl (Int32.ofNat j)]) (m' := (f, l)) rfl rfl (fl_bo rfl) rfl ?_
  refine fl_Tq.stp (pc' := 6) (lv' := [some (.inr (.inr (.inl (76, 277)))), some (.inl n), some (.inl more), some (.inl (Int32.ofNat j))]) (st' := [.inl n, .inl (Int32.ofNat j)]) (m' := (f, l)) rfl rfl (fl_bo rfl) rfl ?_
  refine fl_Tq.jt rfl (fl_bo rfl) (c2_ge_t hk) rfl ?_
  refine fl_Tq.stp (pc' := 23) (lv' := [some (.inr (.inr (.inl (76, 277)))), some (.inl n), some (.inl more), some (.inl (Int32.ofNat j))]) (st' := [.inl more]) (m' := (f, l)) rfl rfl (fl_bo rfl) rfl ?_
  exact fl_Tq.ret rfl rfl rfl k
