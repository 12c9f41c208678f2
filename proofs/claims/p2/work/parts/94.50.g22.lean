theorem hi_A {L : Nat} {xs : Nat → Int32} {f : t2_F} {l : t2_L} {Q : Option fl_V → fl_M → Prop}   (k : fl_Tq (pw_P L xs) 22 15 [some (.inr (.inr (.inl (73, 273)))), some (.inr (.inr (.inl (73, 271)))), some (.inl (0 : Int32))] [] (fl_row f 273 (upd (upd (f 273) 1 (0 : Int32)) 2 (f 271 2)), l) Q) : fl_Tq (pw_P L xs) 22 0 [some (.inr (.inr (.inl (73, 273)))), some (.inr (.inr (.inl (73, 271)))), none] [] (f, l) Q := by
  refine fl_Tq.stp (pc' := 1) (lv' := [some (.inr (.inr (.inl (73, 273)))), some (.inr (.inr (.inl (73, 271)))), none]) (st' := [.inr (.inr (.inl (73, 273)))]) (m' := (f, l)) rfl rfl (fl_bo rfl) rfl ?_
  refine fl_Tq.cI (c := (0 : Int32)) rfl (by decide +kernel) (fl_bo rfl) ?_
  refine fl_Tq.pfV (k := 1) (m' := (fl_row f 273 (upd (f 273) 1 (0 : Int32)), l)) rfl (fl_bo rfl) rfl (t2_upn rfl) ?_
  refine fl_Tq.stp (pc' := 6) (lv' := [some (.inr (.inr (.inl (73, 273)))), some (.inr (.inr (.inl (73, 271)))), none]) (st' := [.inr (.inr (.inl (73, 273)))]) (m' := (fl_row f 273 (upd (f 273) 1 (0 : Int32)), l)) rfl rfl (fl_bo rfl) rfl ?_
  refine fl_Tq.stp (pc' := 7) (lv' := [some (.inr (.inr (.inl (73, 273)))), some (.inr (.inr (.inl (73, 271)))), none]) (st' := [.inr (.inr (.inl (73, 271))), .inr (.inr (.inl (73, 273)))]) (m' := (fl_row f 273 (upd (f 273) 1 (0 : Int32)), l)) rfl rfl (fl_bo rfl) rfl ?_
  refine fl_Tq.gfV (k := 2) (v := f 271 2) rfl (fl_bo rfl) rfl (by simp only [fl_row_ne (by decide : 271 ≠ 273)]) ?_
  refine fl_Tq.pfV (k := 2) (m' := (fl_row f 273 (upd (upd (f 273) 1 (0 : Int32)) 2 (f 271 2)), l)) rfl (fl_bo rfl) rfl (t2_upr) ?_
  refine fl_Tq.cI (c := (0 : Int32)) rfl (by decide +kernel) (fl_bo rfl) ?_
  refine fl_Tq.stp (pc' := 15) (lv' := [some (.inr (.inr (.inl (73, 273)))), some (.inr (.inr (.inl (73, 271)))), some (.inl (0 : Int32))]) (st' := []) (m' := (fl_row f 273 (upd (upd (f 273) 1 (0 : Int32)) 2 (f 271 2)), l)) rfl rfl (fl_bo rfl) rfl ?_
  exact k
theorem hi_B1 {L : Nat} {xs : Nat → Int32} {f : t2_F} {l : t2_L} {Q : Option fl_V → fl_M → Prop} {j : Nat} (hk : (Int32.ofNat j).toInt < (f 273 2).toInt) (k : fl_Tq (pw_P L xs) 22 25 [some (.inr (.inr (.inl (73, 273)))), some (.inr (.inr (.inl (73, 271)))), some (.inl (Int32.ofNat j))] [.inl (Int32.ofNat j), .inr (.inr (.inl (73, 273)))] (f, l) Q) : fl_Tq (pw_P L xs) 22 15 [some (.inr (.inr (.inl (73, 273)))), some (.inr (.inr (.inl (73, 271)))), some (.inl (Int32.ofNat j))] [] (f, l) Q := by
  refine fl_Tq.stp (pc' := 16) (lv' := [some (.inr (.inr (.inl (73, 273)))), some (.inr (.inr (.inl (73, 271)))), some (.inl (Int32.ofNat j))]) (st' := [.inl (Int32.ofNat j)]) (m' := (f, l)) rfl rfl (fl_bo rfl) rfl ?_
  refine fl_Tq.stp (pc' := 17) (lv' := [some (.inr (.inr (.inl (73, 273)))), some (.inr (.inr (.inl (73, 271)))), some (.inl (Int32.ofNat j))]) (st' := [.inr (.inr (.inl (73, 273))), .inl (Int32.ofNat j)]) (m' := (f, l)) rfl rfl (fl_bo rfl) rfl ?_
  refine fl_Tq.gfV (k := 2) (v := f 273 2) rfl (fl_bo rfl) rfl rfl ?_
  refine fl_Tq.jf rfl (fl_bo rfl) (c2_ge_f hk) rfl ?_
  refine fl_Tq.stp (pc' := 24) (lv' := [some (.inr (.inr (.inl (73, 273)))), some (.inr (.inr (.inl (73, 271)))), some (.inl (Int32.ofNat j))]) (st' := [.inr (.inr (.inl (73, 273)))]) (m' := (f, l)) rfl rfl (fl_bo rfl) rfl ?_
  refine fl_Tq.stp (pc' := 25) (lv' := [some (.inr (.inr (.inl (73, 273)))), some (.inr (.inr (.inl (73, 271)))), some (.inl (Int32.ofNat j))]) (st' := [.inl (Int32.ofNat j), .inr (.inr (.inl (73, 273)))]) (m' := (f, l)) rfl rfl (fl_bo rfl) rfl ?_
  exact k
theorem hi_B2 {L : Nat} {xs : Nat → Int32} {f : t2_F} {l : t2_L} {Q : Option fl_V → fl_M → Prop} {j d : Nat} (hd : fk_K d = 25 ∧ d < fl_N l.2) (k : fl_Tq (pw_P L xs) 22 34 [some (.inr (.inr (.inl (73, 273)))), some (.inr (.inr (.inl (73, 271)))), some (.inl (Int32.ofNat j))] [.inl (((f 271 1) + (Int32.ofNat j)) - ((f 271 1) + (Int32.ofNat j)) / (20 : Int32) * (20 : Int32)), .inr (.inr (.inl (73, 271))), .inr (.inr (.inl (25, d)))] (f, l) Q) : fl_Tq (pw_P L xs) 22 28 [some (.inr (.inr (.inl (73, 273)))), some (.inr (.inr (.inl (73, 271)))), some (.inl (Int32.ofNat j))] [.inr (.inr (.inl (25, d)))] (f, l) Q := by
  refine fl_Tq.stp (pc' := 29) (lv' := [some (.inr (.inr (.inl (73, 273)))), some (.inr (.inr (.inl (73, 271)))), some (.inl (Int32.ofNat j))]) (st' := [.inr (.inr (.inl (73, 271))), .inr (.inr (.inl (25, d)))]) (m' := (f, l)) rfl rfl (fl_oks_ok ⟨hd, True.intro⟩) rfl ?_
  refine fl_Tq.stp (pc' := 30) (lv' := [some (.inr (.inr (.inl (73, 273)))), some (.inr (.inr (.inl (73, 271)))), some (.inl (Int32.ofNat j))]) (st' := [.inr (.inr (.inl (73, 271))), .inr (.inr (.inl (73, 271))), .inr (.inr (.inl (25, d)))]) (m' := (f, l)) rfl rfl (fl_oks_ok ⟨fl_okp (by decide +kernel) (by decide), hd, True.intro⟩) rfl ?_
  refine fl_Tq.stp (pc' := 31) (lv' := [some (.inr (.inr (.inl (73, 273)))), some (.inr (.inr (.inl (73, 271)))), some (.inl (Int32.ofNat j))]) (st' := [.inl (Int32.ofNat j), .inr (.inr (.inl (73, 271))), .inr (.inr (.inl (73, 271))), .inr (.inr (.inl (25, d)))]) (m' := (f, l)) rfl rfl (fl_oks_ok ⟨fl_okp (by decide +kernel) (by decide), fl_okp (by decide +kernel) (by decide), hd, True.intro⟩) rfl ?_
  refine fl_Tq.cal rfl rfl (fl_oks_ok ⟨True.intro, fl_okp (by decide +kernel) (by decide), fl_okp (by decide +kernel) (by decide), hd, True.intro⟩) rfl ?_
  refine fl_Tq.stp (pc' := 1) (lv' := [some (.inr (.inr (.inl (73, 271)))), some (.inl (Int32.ofNat j))]) (st' := [.inr (.inr (.inl (73, 271)))]) (m' := (f, l)) rfl rfl (fl_bo rfl) rfl ?_
  refine fl_Tq.gfV (k := 1) (v := f 271 1) rfl (fl_bo rfl) rfl rfl ?_
  refine fl_Tq.stp (pc' := 5) (lv' := [some (.inr (.inr (.inl (73, 271)))), some (.inl (Int32.ofNat j))]) (st' := [.inl (Int32.ofNat j), .inl (f 271 1)]) (m' := (f, l)) rfl rfl (fl_bo rfl) rfl ?_
  refine fl_Tq.stp (pc' := 6) (lv' := [some (.inr (.inr (.inl (73, 271)))), some (.inl (Int32.ofNat j))]) (st' := [.inl ((f 271 1) + (Int32.ofNat j))]) (m' := (f, l)) rfl rfl (fl_bo rfl) rfl ?_
  refine fl_Tq.cB (c := (20 : Int32)) rfl (by decide +kernel) (fl_bo rfl) ?_
  refine fl_Tq.rm rfl (fl_bo rfl) (by decide +kernel) ?_
  refine fl_Tq.ret rfl rfl rfl ?_
  show fl_Tq _ 22 34 [some (.inr (.inr (.inl (73, 273)))), some (.inr (.inr (.inl (73, 271)))), some (.inl (Int32.ofNat j))] [.inl (((f 271 1) + (Int32.ofNat j)) - ((f 271 1) + (Int32.ofNat j)) / (20 : Int32) * (20 : Int32)), .inr (.inr (.inl (73, 271))), .inr (.inr (.inl (25, d)))] (f, l) _
  exact k
theorem hi_B3 {L : Nat} {xs : Nat → Int32} {f : t2_F} {l : t2_L} {Q : Option fl_V → fl_M → Prop} {j d e : Nat} (hd : fk_K d = 25 ∧ d < fl_N l.2) (he : fk_K e = 25 ∧ e < fl_N l.2) (A : t2_blk l.2 d 24) (B : t2_blk l.2 e 24) (hpq : d + 90 ≤ e ∨ e + 90 ≤ d) (hn : 0 ≤ (f e 5).toInt ∧ (f e 5).toInt ≤ 16) (hz : ∀ j : Nat, (j : Int) < (f e 5).toInt → f (e + 17 + 4 * j) 10 = 0 ∨ f (e + 17 + 4 * j) 10 = 1) (hw : f (e + 9) 6 = 0 ∨ f (e + 9) 6 = 1) (k : fl_Tq (pw_P L xs) 22 15 [some (.inr (.inr (.inl (73, 273)))), some (.inr (.inr (.inl (73, 271)))), some (.inl ((Int32.ofNat j) + (1 : Int32)))] [] (bs_m f d e, l) Q) : fl_Tq (pw_P L xs) 22 37 [some (.inr (.inr (.inl (73, 273)))), some (.inr (.inr (.inl (73, 271)))), some (.inl (Int32.ofNat j))] [.inr (.inr (.inl (25, e))), .inr (.inr (.inl (25, d)))] (f, l) Q := by
  refine fl_Tq.cal rfl rfl (fl_oks_ok ⟨he, hd, True.intro⟩) rfl ?_
  refine bs_24_24_q A B hpq hn hz hw ?_
  show fl_Tq _ 22 40 [some (.inr (.inr (.inl (73, 273)))), some (.inr (.inr (.inl (73, 271)))), some (.inl (Int32.ofNat j))] [] (bs_m f d e, l) _
  refine fl_Tq.stp (pc' := 43) (lv' := [some (.inr (.inr (.inl (73, 273)))), some (.inr (.inr (.inl (73, 271)))), some (.inl ((Int32.ofNat j) + (1 : Int32)))]) (st' := []) (m' := (bs_m f d e, l)) rfl rfl (fl_bo rfl) rfl ?_
  refine fl_Tq.stp (pc' := 15) (lv' := [some (.inr (.inr (.inl (73, 273)))), some (.inr (.inr (.inl (73, 271)))), some (.inl ((Int32.ofNat j) + (1 : Int32)))]) (st' := []) (m' := (bs_m f d e, l)) rfl rfl (fl_bo rfl) rfl ?_
  exact k
theorem hi_C {L : Nat} {xs : Nat → Int32} {f : t2_F} {l : t2_L} {Q : Option fl_V → fl_M → Prop} {j : Nat} (hk : ¬ ((Int32.ofNat j).toInt < (f 273 2).toInt)) (k : Q none (f, l)) : fl_Tq (pw_P L xs) 22 15 [some (.inr (.inr (.inl (73, 273)))), some (.inr (.inr (.inl (73, 271)))), some (.inl (Int32.ofNat j))] [] (f, l) Q := by
  refine fl_Tq.stp (pc' := 16) (lv' := [some (.inr (.inr (.inl (73, 273)))), some (.inr (.inr (.inl (73, 271)))), some (.inl (Int32.ofNat j))]) (st' := [.inl (Int32.ofNat j)]) (m' := (f, l)) rfl rfl (fl_bo rfl) rfl ?_
  refine fl_Tq.stp (pc' := 17) (lv' := [some (.inr (.inr (.inl (73, 273)))), some (.inr (.inr (.inl (73, 271)))), some (.inl (Int32.ofNat j))]) (st' := [.inr (.inr (.inl (73, 273))), .inl (Int32.ofNat j)]) (m' := (f, l)) rfl rfl (fl_bo rfl) rfl ?_
  refine fl_Tq.gfV (k := 2) (v := f 273 2) rfl (fl_bo rfl) rfl rfl ?_
  refine fl_Tq.jt rfl (fl_bo rfl) (c2_ge_t hk) rfl ?_
  exact fl_Tq.ret rfl rfl rfl k
theorem hb_A {L : Nat} {xs : Nat → Int32} {f : t2_F} {l : t2_L} {Q : Option fl_V → fl_M → Prop}   (k : fl_Tq (pw_P L xs) 22 15 [some (.inr (.inr (.inl (73, 271)))), some (.inr (.inr (.inl (73, 273)))), some (.inl (0 : Int32))] [] (fl_row f 271 (upd (upd (f 271) 1 (0 : Int32)) 2 (f 273 2)), l) Q) : fl_Tq (pw_P L xs) 22 0 [some (.inr (.inr (.inl (73, 271)))), some (.inr (.inr (.inl (73, 273)))), none] [] (f, l) Q := by
  refine fl_Tq.stp (pc' := 1) (lv' := [some (.inr (.inr (.inl (73, 271)))), some (.inr (.inr (.inl (73, 273)))), none]) (st' := [.inr (.inr (.inl (73, 271)))]) (m' := (f, l)) rfl rfl (fl_bo rfl) rfl ?_
  refine fl_Tq.cI (c := (0 : Int32)) rfl (by decide +kernel) (fl_bo rfl) ?_
  refine fl_Tq.pfV (k := 1) (m' := (fl_row f 271 (upd (f 271) 1 (0 : Int32)), l)) rfl (fl_bo rfl) rfl (t2_upn rfl) ?_
  refine fl_Tq.stp (pc' := 6) (lv' := [some (.inr (.inr (.inl (73, 271)))), some (.inr (.inr (.inl (73, 273)))), none]) (st' := [.inr (.inr (.inl (73, 271)))]) (m' := (fl_row f 271 (upd (f 271) 1 (0 : Int32)), l)) rfl rfl (fl_bo rfl) rfl ?_
  refine fl_Tq.stp (pc' := 7) (lv' := [some (.inr (.inr (.inl (73, 271)))), some (.inr (.inr (.inl (73, 273)))), none]) (st' := [.inr (.inr (.inl (73, 273))), .inr (.inr (.inl (73, 271)))]) (m' := (fl_row f 271 (upd (f 271) 1 (0 : Int32)), l)) rfl rfl (fl_bo rfl) rfl ?_
  refine fl_Tq.gfV (k := 2) (v := f 273 2) rfl (fl_bo rfl) rfl (by simp only [fl_row_ne (by decide : 273 ≠ 271)]) ?_
  refine fl_Tq.pfV (k := 2) (m' := (fl_row f 271 (upd (upd (f 271) 1 (0 : Int32)) 2 (f 273 2)), l)) rfl (fl_bo rfl) rfl (t2_upr) ?_
  refine fl_Tq.cI (c := (0 : Int32)) rfl (by decide +kernel) (fl_bo rfl) ?_
  refine fl_Tq.stp (pc' := 15) (lv' := [some (.inr (.inr (.inl (73, 271)))), some (.inr (.inr (.inl (73, 273)))), some (.inl (0 : Int32))]) (st' := []) (m' := (fl_row f 271 (upd (upd (f 271) 1 (0 : Int32)) 2 (f 273 2)), l)) rfl rfl (fl_bo rfl) rfl ?_
  exact k
theorem hb_B1 {L : Nat} {xs : Nat → Int32} {f : t2_F} {l : t2_L} {Q : Option fl_V → fl_M → Prop} {j : Nat} (hk : (Int32.ofNat j).toInt < (f 271 2).toInt) (k : fl_Tq (pw_P L xs) 22 25 [some (.inr (.inr (.inl (73, 271)))), some (.inr (.inr (.inl (73, 273)))), some (.inl (Int32.ofNat j))] [.inl (Int32.ofNat j), .inr (.inr (.inl (73, 271)))] (f, l) Q) : fl_Tq (pw_P L xs) 22 15 [some (.inr (.inr (.inl (73, 271)))), some (.inr (.inr (.inl (73, 273)))), some (.inl (Int32.ofNat j))] [] (f, l) Q := by
  refine fl_Tq.stp (pc' := 16) (lv' := [some (.inr (.inr (.inl (73, 271)))), some (.inr (.inr (.inl (73, 273)))), some (.inl (Int32.ofNat j))]) (st' := [.inl (Int32.ofNat j)]) (m' := (f, l)) rfl rfl (fl_bo rfl) rfl ?_
  refine fl_Tq.stp (pc' := 17) (lv' := [some (.inr (.inr (.inl (73, 271)))), some (.inr (.inr (.inl (73, 273)))), some (.inl (Int32.ofNat j))]) (st' := [.inr (.inr (.inl (73, 271))), .inl (Int32.ofNat j)]) (m' := (f, l)) rfl rfl (fl_bo rfl) rfl ?_
  refine fl_Tq.gfV (k := 2) (v := f 271 2) rfl (fl_bo rfl) rfl rfl ?_
  refine fl_Tq.jf rfl (fl_bo rfl) (c2_ge_f hk) rfl ?_
  refine fl_Tq.stp (pc' := 24) (lv' := [some (.inr (.inr (.inl (73, 271)))), some (.inr (.inr (.inl (73, 273)))), some (.inl (Int32.ofNat j))]) (st' := [.inr (.inr (.inl (73, 271)))]) (m' := (f, l)) rfl rfl (fl_bo rfl) rfl ?_
  refine fl_Tq.stp (pc' := 25) (lv' := [some (.inr (.inr (.inl (73, 271)))), some (.inr (.inr (.inl (73, 273)))), some (.inl (Int32.ofNat j))]) (st' := [.inl (Int32.ofNat j), .inr (.inr (.inl (73, 271)))]) (m' := (f, l)) rfl rfl (fl_bo rfl) rfl ?_
  exact k
theorem hb_B2 {L : Nat} {xs : Nat → Int32} {f : t2_F} {l : t2_L} {Q : Option fl_V → fl_M → Prop} {j d : Nat} (hd : fk_K d = 25 ∧ d < fl_N l.2) (k : fl_Tq (pw_P L xs) 22 34 [some (.inr (.inr (.inl (73, 271)))), some (.inr (.inr (.inl (73, 273)))), some (.inl (Int32.ofNat j))] [.inl (((f 273 1) + (Int32.ofNat j)) - ((f 273 1) + (Int32.ofNat j)) / (20 : Int32) * (20 : Int32)), .inr (.inr (.inl (73, 273))), .inr (.inr (.inl (25, d)))] (f, l) Q) : fl_Tq (pw_P L xs) 22 28 [some (.inr (.inr (.inl (73, 271)))), some (.inr (.inr (.inl (73, 273)))), some (.inl (Int32.ofNat j))] [.inr (.inr (.inl (25, d)))] (f, l) Q := by
  refine fl_Tq.stp (pc' := 29) (lv' := [some (.inr (.inr (.inl (73, 271)))), some (.inr (.inr (.inl (73, 273)))), some (.inl (Int32.ofNat j))]) (st' := [.inr (.inr (.inl (73, 273))), .inr (.inr (.inl (25, d)))]) (m' := (f, l)) rfl rfl (fl_oks_ok ⟨hd, True.intro⟩) rfl ?_
  refine fl_Tq.stp (pc' := 30) (lv' := [some (.inr (.inr (.inl (73, 271)))), some (.inr (.inr (.inl (73, 273)))), some (.inl (Int32.ofNat j))]) (st' := [.inr (.inr (.inl (73, 273))), .inr (.inr (.inl (73, 273))), .inr (.inr (.inl (25, d)))]) (m' := (f, l)) rfl rfl (fl_oks_ok ⟨fl_okp (by decide +kernel) (by decide), hd, True.intro⟩) rfl ?_
  refine fl_Tq.stp (pc' := 31) (lv' := [some (.inr (.inr (.inl (73, 271)))), some (.inr (.inr (.inl (73, 273)))), some (.inl (Int32.ofNat j))]) (st' := [.inl (Int32.ofNat j), .inr (.inr (.inl (73, 273))), .inr (.inr (.inl (73, 273))), .inr (.inr (.inl (25, d)))]) (m' := (f, l)) rfl rfl (fl_oks_ok ⟨fl_okp (by decide +kernel) (by decide), fl_okp (by decide +kernel) (by decide), hd, True.intro⟩) rfl ?_
  refine fl_Tq.cal rfl rfl (fl_oks_ok ⟨True.intro, fl_okp (by decide +kernel) (by decide), fl_okp (by decide +kernel) (by decide), hd, True.intro⟩) rfl ?_
  refine fl_Tq.stp (pc' := 1) (lv' := [some (.inr (.inr (.inl (73, 273)))), some (.inl (Int32.ofNat j))]) (st' := [.inr (.inr (.inl (73, 273)))]) (m' := (f, l)) rfl rfl (fl_bo rfl) rfl ?_
  refine fl_Tq.gfV (k := 1) (v := f 273 1) rfl (fl_bo rfl) rfl rfl ?_
  refine fl_Tq.stp (pc' := 5) (lv' := [some (.inr (.inr (.inl (73, 273)))), some (.inl (Int32.ofNat j))]) (st' := [.inl (Int32.ofNat j), .inl (f 273 1)]) (m' := (f, l)) rfl rfl (fl_bo rfl) rfl ?_
  refine fl_Tq.stp (pc' := 6) (lv' := [some (.inr (.inr (.inl (73, 273)))), some (.inl (Int32.ofNat j))]) (st' := [.inl ((f 273 1) + (Int32.ofNat j))]) (m' := (f, l)) rfl rfl (fl_bo rfl) rfl ?_
  refine fl_Tq.cB (c := (20 : Int32)) rfl (by decide +kernel) (fl_bo rfl) ?_
  refine fl_Tq.rm rfl (fl_bo rfl) (by decide +kernel) ?_
  refine fl_Tq.ret rfl rfl rfl ?_
  show fl_Tq _ 22 34 [some (.inr (.inr (.inl (73, 271)))), some (.inr (.inr (.inl (73, 273)))), some (.inl (Int32.ofNat j))] [.inl (((f 273 1) + (Int32.ofNat j)) - ((f 273 1) + (Int32.ofNat j)) / (20 : Int32) * (20 : Int32)), .inr (.inr (.inl (73, 273))), .inr (.inr (.inl (25, d)))] (f, l) _
  exact k
theorem hb_B3 {L : Nat} {xs : Nat → Int32} {f : t2_F} {l : t2_L} {Q : Option fl_V → fl_M → Prop} {j d e : Nat} (hd : fk_K d = 25 ∧ d < fl_N l.2) (he : fk_K e = 25 ∧ e < fl_N l.2) (A : t2_blk l.2 d 24) (B : t2_blk l.2 e 24) (hpq : d + 90 ≤ e ∨ e + 90 ≤ d) (hn : 0 ≤ (f e 5).toInt ∧ (f e 5).toInt ≤ 16) (hz : ∀ j : Nat, (j : Int) < (f e 5).toInt → f (e + 17 + 4 * j) 10 = 0 ∨ f (e + 17 + 4 * j) 10 = 1) (hw : f (e + 9) 6 = 0 ∨ f (e + 9) 6 = 1) (k : fl_Tq (pw_P L xs) 22 15 [some (.inr (.inr (.inl (73, 271)))), some (.inr (.inr (.inl (73, 273)))), some (.inl ((Int32.ofNat j) + (1 : Int32)))] [] (bs_m f d e, l) Q) : fl_Tq (pw_P L xs) 22 37 [some (.inr (.inr (.inl (73, 271)))), some (.inr (.inr (.inl (73, 273)))), some (.inl (Int32.ofNat j))] [.inr (.inr (.inl (25, e))), .inr (.inr (.inl (25, d)))] (f, l) Q := by
  refine fl_Tq.cal rfl rfl (fl_oks_ok ⟨he, hd, True.intro⟩) rfl ?_
  refine bs_24_24_q A B hpq hn hz hw ?_
  show fl_Tq _ 22 40 [some (.inr (.inr (.inl (73, 271)))), some (.inr (.inr (.inl (73, 273)))), some (.inl (Int32.ofNat j))] [] (bs_m f d e, l) _
  refine fl_Tq.stp (pc' := 43) (lv' := [some (.inr (.inr (.inl (73, 271)))), some (.inr (.inr (.inl (73, 273)))), some (.inl ((Int32.ofNat j) + (1 : Int32)))]) (st' := []) (m' := (bs_m f d e, l)) rfl rfl (fl_bo rfl) rfl ?_
  refine fl_Tq.stp (pc' := 15) (lv' := [some (.inr (.inr (.inl (73, 271)))), some (.inr (.inr (.inl (73, 273)))), some (.inl ((Int32.ofNat j) + (1 : Int32)))]) (st' := []) (m' := (bs_m f d e, l)) rfl rfl (fl_bo rfl) rfl ?_
  exact k
theorem hb_C {L : Nat} {xs : Nat → Int32} {f : t2_F} {l : t2_L} {Q : Option fl_V → fl_M → Prop} {j : Nat} (hk : ¬ ((Int32.ofNat j).toInt < (f 271 2).toInt)) (k : Q none (f, l)) : fl_Tq (pw_P L xs) 22 15 [some (.inr (.inr (.inl (73, 271)))), some (.inr (.inr (.inl (73, 273)))), some (.inl (Int32.ofNat j))] [] (f, l) Q := by
  refine fl_Tq.stp (pc' := 16) (lv' := [some (.inr (.inr (.inl (73, 271)))), some (.inr (.inr (.inl (73, 273)))), some (.inl (Int32.ofNat j))]) (st' := [.inl (Int32.ofNat j)]) (m' := (f, l)) rfl rfl (fl_bo rfl) rfl ?_
  refine fl_Tq.stp (pc' := 17) (lv' := [some (.inr (.inr (.inl (73, 271)))), some (.inr (.inr (.inl (73, 273)))), some (.inl (Int32.ofNat j))]) (st' := [.inr (.inr (.inl (73, 271))), .inl (Int32.ofNat j)]) (m' := (f, l)) rfl rfl (fl_bo rfl) rfl ?_
  refine fl_Tq.gfV (k := 2) (v := f 271 2) rfl (fl_bo rfl) rfl rfl ?_
  refine fl_Tq.jt rfl (fl_bo rfl) (c2_ge_t hk) rfl ?_
  exact fl_Tq.ret rfl rfl rfl k
