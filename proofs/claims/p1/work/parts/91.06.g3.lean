noncomputable def c0_putReckoned_m (f : t2_F) (i : Nat) (x : Int32) : t2_F := fl_row f (18 + 4 * i) (upd (f (18 + 4 * i)) 8 (t2_heldTo_v x (0 : Int32) ((f (18 + 4 * i) 0) * (3600 : Int32))))
theorem c0_putReckoned_fr {f : t2_F} {i : Nat} {x : Int32} {p : Nat} (e0 : p ≠ 18 + 4 * i) : c0_putReckoned_m f i x p = f p := by
  unfold c0_putReckoned_m
  repeat' split
  all_goals first | rfl | simp only [fl_row_ne e0]
theorem c0_putReckoned_q {L : Nat} {xs : Nat → Int32} {f : t2_F} {l : t2_L} {Q : Option fl_V → fl_M → Prop} {i : Nat} {x : Int32} (hi : i < 16) (k : Q none (c0_putReckoned_m f i x, l)) : fl_Tq (pw_P L xs) 6 0 (fl_args (am_mxl (pw_P L xs) 6) [.inr (.inr (.inl (18, 18 + 4 * i))), .inl x]) [] (f, l) Q := by
  refine fl_Tq.stp (pc' := 1) (lv' := [some (.inr (.inr (.inl (18, 18 + 4 * i)))), some (.inl x)]) (st' := [.inr (.inr (.inl (18, 18 + 4 * i)))]) (m' := (f, l)) rfl rfl (fl_bo rfl) rfl ?_
  refine fl_Tq.stp (pc' := 2) (lv' := [some (.inr (.inr (.inl (18, 18 + 4 * i)))), some (.inl x)]) (st' := [.inl x, .inr (.inr (.inl (18, 18 + 4 * i)))]) (m' := (f, l)) rfl rfl (fl_oks_ok ⟨t2_kc0 hi, True.intro⟩) rfl ?_
  refine fl_Tq.cI (c := (0 : Int32)) rfl (by decide +kernel) (fl_oks_ok ⟨True.intro, t2_kc0 hi, True.intro⟩) ?_
  refine fl_Tq.stp (pc' := 4) (lv' := [some (.inr (.inr (.inl (18, 18 + 4 * i)))), some (.inl x)]) (st' := [.inr (.inr (.inl (18, 18 + 4 * i))), .inl (0 : Int32), .inl x, .inr (.inr (.inl (18, 18 + 4 * i)))]) (m' := (f, l)) rfl rfl (fl_oks_ok ⟨True.intro, True.intro, t2_kc0 hi, True.intro⟩) rfl ?_
  refine fl_Tq.cal rfl rfl (fl_oks_ok ⟨t2_kc0 hi, True.intro, True.intro, t2_kc0 hi, True.intro⟩) rfl ?_
  refine fl_Tq.stp (pc' := 1) (lv' := [some (.inr (.inr (.inl (18, 18 + 4 * i))))]) (st' := [.inr (.inr (.inl (18, 18 + 4 * i)))]) (m' := (f, l)) rfl rfl (fl_bo rfl) rfl ?_
  refine fl_Tq.gfV (k := 0) (v := f (18 + 4 * i) 0) rfl (fl_oks_ok ⟨t2_kc0 hi, True.intro⟩) rfl rfl ?_
  refine fl_Tq.cS (c := (3600 : Int32)) rfl (by decide +kernel) (fl_bo rfl) ?_
  refine fl_Tq.stp (pc' := 8) (lv' := [some (.inr (.inr (.inl (18, 18 + 4 * i))))]) (st' := [.inl ((f (18 + 4 * i) 0) * (3600 : Int32))]) (m' := (f, l)) rfl rfl (fl_bo rfl) rfl ?_
  refine fl_Tq.ret rfl rfl rfl ?_
  show fl_Tq _ 6 7 [some (.inr (.inr (.inl (18, 18 + 4 * i)))), some (.inl x)] [.inl ((f (18 + 4 * i) 0) * (3600 : Int32)), .inl (0 : Int32), .inl x, .inr (.inr (.inl (18, 18 + 4 * i)))] (f, l) _
  refine fl_Tq.cal rfl rfl (fl_oks_ok ⟨True.intro, True.intro, True.intro, t2_kc0 hi, True.intro⟩) rfl ?_
  refine t2_heldTo_q  ?_
  show fl_Tq _ 6 10 [some (.inr (.inr (.inl (18, 18 + 4 * i)))), some (.inl x)] [.inl (t2_heldTo_v x (0 : Int32) ((f (18 + 4 * i) 0) * (3600 : Int32))), .inr (.inr (.inl (18, 18 + 4 * i)))] (f, l) _
  refine fl_Tq.pfV (k := 8) (m' := (fl_row f (18 + 4 * i) (upd (f (18 + 4 * i)) 8 (t2_heldTo_v x (0 : Int32) ((f (18 + 4 * i) 0) * (3600 : Int32)))), l)) rfl (fl_oks_ok ⟨True.intro, t2_kc0 hi, True.intro⟩) rfl (t2_upn rfl) ?_
  exact fl_Tq.ret rfl rfl rfl k
noncomputable def c0_reckonedPart_v (f : t2_F) (i : Nat) : Int32 := t2_partOf_v (f (18 + 4 * i) 8) ((f (18 + 4 * i) 0) * (3600 : Int32))
theorem c0_reckonedPart_q {L : Nat} {xs : Nat → Int32} {f : t2_F} {l : t2_L} {Q : Option fl_V → fl_M → Prop} {i : Nat} (hi : i < 16) (k : Q (some (.inl (c0_reckonedPart_v f i))) (f, l)) : fl_Tq (pw_P L xs) 7 0 (fl_args (am_mxl (pw_P L xs) 7) [.inr (.inr (.inl (18, 18 + 4 * i)))]) [] (f, l) Q := by
  refine fl_Tq.stp (pc' := 1) (lv' := [some (.inr (.inr (.inl (18, 18 + 4 * i))))]) (st' := [.inr (.inr (.inl (18, 18 + 4 * i)))]) (m' := (f, l)) rfl rfl (fl_bo rfl) rfl ?_
  refine fl_Tq.gfV (k := 8) (v := f (18 + 4 * i) 8) rfl (fl_oks_ok ⟨t2_kc0 hi, True.intro⟩) rfl rfl ?_
  refine fl_Tq.stp (pc' := 5) (lv' := [some (.inr (.inr (.inl (18, 18 + 4 * i))))]) (st' := [.inr (.inr (.inl (18, 18 + 4 * i))), .inl (f (18 + 4 * i) 8)]) (m' := (f, l)) rfl rfl (fl_bo rfl) rfl ?_
  refine fl_Tq.cal rfl rfl (fl_oks_ok ⟨t2_kc0 hi, True.intro, True.intro⟩) rfl ?_
  refine fl_Tq.stp (pc' := 1) (lv' := [some (.inr (.inr (.inl (18, 18 + 4 * i))))]) (st' := [.inr (.inr (.inl (18, 18 + 4 * i)))]) (m' := (f, l)) rfl rfl (fl_bo rfl) rfl ?_
  refine fl_Tq.gfV (k := 0) (v := f (18 + 4 * i) 0) rfl (fl_oks_ok ⟨t2_kc0 hi, True.intro⟩) rfl rfl ?_
  refine fl_Tq.cS (c := (3600 : Int32)) rfl (by decide +kernel) (fl_bo rfl) ?_
  refine fl_Tq.stp (pc' := 8) (lv' := [some (.inr (.inr (.inl (18, 18 + 4 * i))))]) (st' := [.inl ((f (18 + 4 * i) 0) * (3600 : Int32))]) (m' := (f, l)) rfl rfl (fl_bo rfl) rfl ?_
  refine fl_Tq.ret rfl rfl rfl ?_
  show fl_Tq _ 7 8 [some (.inr (.inr (.inl (18, 18 + 4 * i))))] [.inl ((f (18 + 4 * i) 0) * (3600 : Int32)), .inl (f (18 + 4 * i) 8)] (f, l) _
  refine fl_Tq.cal rfl rfl (fl_bo rfl) rfl ?_
  refine t2_partOf_q  ?_
  show fl_Tq _ 7 11 [some (.inr (.inr (.inl (18, 18 + 4 * i))))] [.inl (t2_partOf_v (f (18 + 4 * i) 8) ((f (18 + 4 * i) 0) * (3600 : Int32)))] (f, l) _
  exact fl_Tq.ret rfl rfl rfl k
noncomputable def c0_voltsAt_v (f : t2_F) (i : Nat) (x : Int32) : Int32 := ((f (18 + 4 * i) 4) + (f (18 + 4 * i) 7)) + (t2_fdiv_v (x * (f (18 + 4 * i) 5)) (1000 : Int32))
theorem c0_voltsAt_q {L : Nat} {xs : Nat → Int32} {f : t2_F} {l : t2_L} {Q : Option fl_V → fl_M → Prop} {i : Nat} {x : Int32} (hi : i < 16) (k : Q (some (.inl (c0_voltsAt_v f i x))) (f, l)) : fl_Tq (pw_P L xs) 8 0 (fl_args (am_mxl (pw_P L xs) 8) [.inr (.inr (.inl (18, 18 + 4 * i))), .inl x]) [] (f, l) Q := by
  refine fl_Tq.stp (pc' := 1) (lv' := [some (.inr (.inr (.inl (18, 18 + 4 * i)))), some (.inl x)]) (st' := [.inr (.inr (.inl (18, 18 + 4 * i)))]) (m' := (f, l)) rfl rfl (fl_bo rfl) rfl ?_
  refine fl_Tq.gfV (k := 4) (v := f (18 + 4 * i) 4) rfl (fl_oks_ok ⟨t2_kc0 hi, True.intro⟩) rfl rfl ?_
  refine fl_Tq.stp (pc' := 5) (lv' := [some (.inr (.inr (.inl (18, 18 + 4 * i)))), some (.inl x)]) (st' := [.inr (.inr (.inl (18, 18 + 4 * i))), .inl (f (18 + 4 * i) 4)]) (m' := (f, l)) rfl rfl (fl_bo rfl) rfl ?_
  refine fl_Tq.gfV (k := 7) (v := f (18 + 4 * i) 7) rfl (fl_oks_ok ⟨t2_kc0 hi, True.intro, True.intro⟩) rfl rfl ?_
  refine fl_Tq.stp (pc' := 9) (lv' := [some (.inr (.inr (.inl (18, 18 + 4 * i)))), some (.inl x)]) (st' := [.inl ((f (18 + 4 * i) 4) + (f (18 + 4 * i) 7))]) (m' := (f, l)) rfl rfl (fl_bo rfl) rfl ?_
  refine fl_Tq.stp (pc' := 10) (lv' := [some (.inr (.inr (.inl (18, 18 + 4 * i)))), some (.inl x)]) (st' := [.inl x, .inl ((f (18 + 4 * i) 4) + (f (18 + 4 * i) 7))]) (m' := (f, l)) rfl rfl (fl_bo rfl) rfl ?_
  refine fl_Tq.stp (pc' := 11) (lv' := [some (.inr (.inr (.inl (18, 18 + 4 * i)))), some (.inl x)]) (st' := [.inr (.inr (.inl (18, 18 + 4 * i))), .inl x, .inl ((f (18 + 4 * i) 4) + (f (18 + 4 * i) 7))]) (m' := (f, l)) rfl rfl (fl_bo rfl) rfl ?_
  refine fl_Tq.gfV (k := 5) (v := f (18 + 4 * i) 5) rfl (fl_oks_ok ⟨t2_kc0 hi, True.intro, True.intro, True.intro⟩) rfl rfl ?_
  refine fl_Tq.stp (pc' := 15) (lv' := [some (.inr (.inr (.inl (18, 18 + 4 * i)))), some (.inl x)]) (st' := [.inl (x * (f (18 + 4 * i) 5)), .inl ((f (18 + 4 * i) 4) + (f (18 + 4 * i) 7))]) (m' := (f, l)) rfl rfl (fl_bo rfl) rfl ?_
  refine fl_Tq.cS (c := (1000 : Int32)) rfl (by decide +kernel) (fl_bo rfl) ?_
  refine fl_Tq.cal rfl rfl (fl_bo rfl) rfl ?_
  refine t2_fdiv_q (by decide +kernel) ?_
  show fl_Tq _ 8 21 [some (.inr (.inr (.inl (18, 18 + 4 * i)))), some (.inl x)] [.inl (t2_fdiv_v (x * (f (18 + 4 * i) 5)) (1000 : Int32)), .inl ((f (18 + 4 * i) 4) + (f (18 + 4 * i) 7))] (f, l) _
  refine fl_Tq.stp (pc' := 22) (lv' := [some (.inr (.inr (.inl (18, 18 + 4 * i)))), some (.inl x)]) (st' := [.inl (((f (18 + 4 * i) 4) + (f (18 + 4 * i) 7)) + (t2_fdiv_v (x * (f (18 + 4 * i) 5)) (1000 : Int32)))]) (m' := (f, l)) rfl rfl (fl_bo rfl) rfl ?_
  exact fl_Tq.ret rfl rfl rfl k
noncomputable def c0_putCharge_m (f : t2_F) (i : Nat) (x : Int32) : t2_F := fl_row f (18 + 4 * i) (upd (upd (upd (f (18 + 4 * i)) 2 (t2_heldTo_v x (0 : Int32) ((f (18 + 4 * i) 0) * (3600 : Int32)))) 3 (t2_partOf_v (t2_heldTo_v x (0 : Int32) ((f (18 + 4 * i) 0) * (3600 : Int32))) ((f (18 + 4 * i) 0) * (3600 : Int32)))) 4 (t2_rb (t2_partOf_v (t2_heldTo_v x (0 : Int32) ((f (18 + 4 * i) 0) * (3600 : Int32))) ((f (18 + 4 * i) 0) * (3600 : Int32)))))
theorem c0_putCharge_fr {f : t2_F} {i : Nat} {x : Int32} {p : Nat} (e0 : p ≠ 18 + 4 * i) : c0_putCharge_m f i x p = f p := by
  unfold c0_putCharge_m
  repeat' split
  all_goals first | rfl | simp only [fl_row_ne e0]
theorem c0_putCharge_q {L : Nat} {xs : Nat → Int32} {f : t2_F} {l : t2_L} {Q : Option fl_V → fl_M → Prop} {i : Nat} {x : Int32} (hi : i < 16) (hk : t2_cap (f (18 + 4 * i) 0)) (k : Q none (c0_putCharge_m f i x, l)) : fl_Tq (pw_P L xs) 5 0 (fl_args (am_mxl (pw_P L xs) 5) [.inr (.inr (.inl (18, 18 + 4 * i))), .inl x]) [] (f, l) Q := by
  refine fl_Tq.stp (pc' := 1) (lv' := [some (.inr (.inr (.inl (18, 18 + 4 * i)))), some (.inl x)]) (st' := [.inr (.inr (.inl (18, 18 + 4 * i)))]) (m' := (f, l)) rfl rfl (fl_bo rfl) rfl ?_
  refine fl_Tq.stp (pc' := 2) (lv' := [some (.inr (.inr (.inl (18, 18 + 4 * i)))), some (.inl x)]) (st' := [.inl x, .inr (.inr (.inl (18, 18 + 4 * i)))]) (m' := (f, l)) rfl rfl (fl_oks_ok ⟨t2_kc0 hi, True.intro⟩) rfl ?_
  refine fl_Tq.cI (c := (0 : Int32)) rfl (by decide +kernel) (fl_oks_ok ⟨True.intro, t2_kc0 hi, True.intro⟩) ?_
  refine fl_Tq.stp (pc' := 4) (lv' := [some (.inr (.inr (.inl (18, 18 + 4 * i)))), some (.inl x)]) (st' := [.inr (.inr (.inl (18, 18 + 4 * i))), .inl (0 : Int32), .inl x, .inr (.inr (.inl (18, 18 + 4 * i)))]) (m' := (f, l)) rfl rfl (fl_oks_ok ⟨True.intro, True.intro, t2_kc0 hi, True.intro⟩) rfl ?_
  refine fl_Tq.cal rfl rfl (fl_oks_ok ⟨t2_kc0 hi, True.intro, True.intro, t2_kc0 hi, True.intro⟩) rfl ?_
  refine fl_Tq.stp (pc' := 1) (lv' := [some (.inr (.inr (.inl (18, 18 + 4 * i))))]) (st' := [.inr (.inr (.inl (18, 18 + 4 * i)))]) (m' := (f, l)) rfl rfl (fl_bo rfl) rfl ?_
  refine fl_Tq.gfV (k := 0) (v := f (18 + 4 * i) 0) rfl (fl_oks_ok ⟨t2_kc0 hi, True.intro⟩) rfl rfl ?_
  refine fl_Tq.cS (c := (3600 : Int32)) rfl (by decide +kernel) (fl_bo rfl) ?_
  refine fl_Tq.stp (pc' := 8) (lv' := [some (.inr (.inr (.inl (18, 18 + 4 * i))))]) (st' := [.inl ((f (18 + 4 * i) 0) * (3600 : Int32))]) (m' := (f, l)) rfl rfl (fl_bo rfl) rfl ?_
  refine fl_Tq.ret rfl rfl rfl ?_
  show fl_Tq _ 5 7 [some (.inr (.inr (.inl (18, 18 + 4 * i)))), some (.inl x)] [.inl ((f (18 + 4 * i) 0) * (3600 : Int32)), .inl (0 : Int32), .inl x, .inr (.inr (.inl (18, 18 + 4 * i)))] (f, l) _
  refine fl_Tq.cal rfl rfl (fl_oks_ok ⟨True.intro, True.intro, True.intro, t2_kc0 hi, True.intro⟩) rfl ?_
  refine t2_heldTo_q  ?_
  show fl_Tq _ 5 10 [some (.inr (.inr (.inl (18, 18 + 4 * i)))), some (.inl x)] [.inl (t2_heldTo_v x (0 : Int32) ((f (18 + 4 * i) 0) * (3600 : Int32))), .inr (.inr (.inl (18, 18 + 4 * i)))] (f, l) _
  refine fl_Tq.pfV (k := 2) (m' := (fl_row f (18 + 4 * i) (upd (f (18 + 4 * i)) 2 (t2_heldTo_v x (0 : Int32) ((f (18 + 4 * i) 0) * (3600 : Int32)))), l)) rfl (fl_oks_ok ⟨True.intro, t2_kc0 hi, True.intro⟩) rfl (t2_upn rfl) ?_
  refine fl_Tq.stp (pc' := 14) (lv' := [some (.inr (.inr (.inl (18, 18 + 4 * i)))), some (.inl x)]) (st' := [.inr (.inr (.inl (18, 18 + 4 * i)))]) (m' := (fl_row f (18 + 4 * i) (upd (f (18 + 4 * i)) 2 (t2_heldTo_v x (0 : Int32) ((f (18 + 4 * i) 0) * (3600 : Int32)))), l)) rfl rfl (fl_bo rfl) rfl ?_
  refine fl_Tq.stp (pc' := 15) (lv' := [some (.inr (.inr (.inl (18, 18 + 4 * i)))), some (.inl x)]) (st' := [.inr (.inr (.inl (18, 18 + 4 * i))), .inr (.inr (.inl (18, 18 + 4 * i)))]) (m' := (fl_row f (18 + 4 * i) (upd (f (18 + 4 * i)) 2 (t2_heldTo_v x (0 : Int32) ((f (18 + 4 * i) 0) * (3600 : Int32)))), l)) rfl rfl (fl_oks_ok ⟨t2_kc0 hi, True.intro⟩) rfl ?_
  refine fl_Tq.gfV (k := 2) (v := t2_heldTo_v x (0 : Int32) ((f (18 + 4 * i) 0) * (3600 : Int32))) rfl (fl_oks_ok ⟨t2_kc0 hi, t2_kc0 hi, True.intro⟩) rfl (by simp only [fl_row_self, upd_self]) ?_
  refine fl_Tq.stp (pc' := 19) (lv' := [some (.inr (.inr (.inl (18, 18 + 4 * i)))), some (.inl x)]) (st' := [.inr (.inr (.inl (18, 18 + 4 * i))), .inl (t2_heldTo_v x (0 : Int32) ((f (18 + 4 * i) 0) * (3600 : Int32))), .inr (.inr (.inl (18, 18 + 4 * i)))]) (m' := (fl_row f (18 + 4 * i) (upd (f (18 + 4 * i)) 2 (t2_heldTo_v x (0 : Int32) ((f (18 + 4 * i) 0) * (3600 : Int32)))), l)) rfl rfl (fl_oks_ok ⟨True.intro, t2_kc0 hi, True.intro⟩) rfl ?_
  refine fl_Tq.cal rfl rfl (fl_oks_ok ⟨t2_kc0 hi, True.intro, t2_kc0 hi, True.intro⟩) rfl ?_
  refine fl_Tq.stp (pc' := 1) (lv' := [some (.inr (.inr (.inl (18, 18 + 4 * i))))]) (st' := [.inr (.inr (.inl (18, 18 + 4 * i)))]) (m' := (fl_row f (18 + 4 * i) (upd (f (18 + 4 * i)) 2 (t2_heldTo_v x (0 : Int32) ((f (18 + 4 * i) 0) * (3600 : Int32)))), l)) rfl rfl (fl_bo rfl) rfl ?_
  refine fl_Tq.gfV (k := 0) (v := f (18 + 4 * i) 0) rfl (fl_oks_ok ⟨t2_kc0 hi, True.intro⟩) rfl (by simp only [fl_row_self, upd_ne (by decide : 0 ≠ 2)]) ?_
  refine fl_Tq.cS (c := (3600 : Int32)) rfl (by decide +kernel) (fl_bo rfl) ?_
  refine fl_Tq.stp (pc' := 8) (lv' := [some (.inr (.inr (.inl (18, 18 + 4 * i))))]) (st' := [.inl ((f (18 + 4 * i) 0) * (3600 : Int32))]) (m' := (fl_row f (18 + 4 * i) (upd (f (18 + 4 * i)) 2 (t2_heldTo_v x (0 : Int32) ((f (18 + 4 * i) 0) * (3600 : Int32)))), l)) rfl rfl (fl_bo rfl) rfl ?_
  refine fl_Tq.ret rfl rfl rfl ?_
  show fl_Tq _ 5 22 [some (.inr (.inr (.inl (18, 18 + 4 * i)))), some (.inl x)] [.inl ((f (18 + 4 * i) 0) * (3600 : Int32)), .inl (t2_heldTo_v x (0 : Int32) ((f (18 + 4 * i) 0) * (3600 : Int32))), .inr (.inr (.inl (18, 18 + 4 * i)))] (fl_row f (18 + 4 * i) (upd (f (18 + 4 * i)) 2 (t2_heldTo_v x (0 : Int32) ((f (18 + 4 * i) 0) * (3600 : Int32)))), l) _
  refine fl_Tq.cal rfl rfl (fl_oks_ok ⟨True.intro, True.intro, t2_kc0 hi, True.intro⟩) rfl ?_
  refine t2_partOf_q  ?_
  show fl_Tq _ 5 25 [some (.inr (.inr (.inl (18, 18 + 4 * i)))), some (.inl x)] [.inl (t2_partOf_v (t2_heldTo_v x (0 : Int32) ((f (18 + 4 * i) 0) * (3600 : Int32))) ((f (18 + 4 * i) 0) * (3600 : Int32))), .inr (.inr (.inl (18, 18 + 4 * i)))] (fl_row f (18 + 4 * i) (upd (f (18 + 4 * i)) 2 (t2_heldTo_v x (0 : Int32) ((f (18 + 4 * i) 0) * (3600 : Int32)))), l) _
  refine fl_Tq.pfV (k := 3) (m' := (fl_row f (18 + 4 * i) (upd (upd (f (18 + 4 * i)) 2 (t2_heldTo_v x (0 : Int32) ((f (18 + 4 * i) 0) * (3600 : Int32)))) 3 (t2_partOf_v (t2_heldTo_v x (0 : Int32) ((f (18 + 4 * i) 0) * (3600 : Int32))) ((f (18 + 4 * i) 0) * (3600 : Int32)))), l)) rfl (fl_oks_ok ⟨True.intro, t2_kc0 hi, True.intro⟩) rfl (t2_upr) ?_
  refine fl_Tq.stp (pc' := 29) (lv' := [some (.inr (.inr (.inl (18, 18 + 4 * i)))), some (.inl x)]) (st' := [.inr (.inr (.inl (18, 18 + 4 * i)))]) (m' := (fl_row f (18 + 4 * i) (upd (upd (f (18 + 4 * i)) 2 (t2_heldTo_v x (0 : Int32) ((f (18 + 4 * i) 0) * (3600 : Int32)))) 3 (t2_partOf_v (t2_heldTo_v x (0 : Int32) ((f (18 + 4 * i) 0) * (3600 : Int32))) ((f (18 + 4 * i) 0) * (3600 : Int32)))), l)) rfl rfl (fl_bo rfl) rfl ?_
  refine fl_Tq.stp (pc' := 30) (lv' := [some (.inr (.inr (.inl (18, 18 + 4 * i)))), some (.inl x)]) (st' := [.inr (.inr (.inl (18, 18 + 4 * i))), .inr (.inr (.inl (18, 18 + 4 * i)))]) (m' := (fl_row f (18 + 4 * i) (upd (upd (f (18 + 4 * i)) 2 (t2_heldTo_v x (0 : Int32) ((f (18 + 4 * i) 0) * (3600 : Int32)))) 3 (t2_partOf_v (t2_heldTo_v x (0 : Int32) ((f (18 + 4 * i) 0) * (3600 : Int32))) ((f (18 + 4 * i) 0) * (3600 : Int32)))), l)) rfl rfl (fl_oks_ok ⟨t2_kc0 hi, True.intro⟩) rfl ?_
  refine fl_Tq.gfV (k := 3) (v := t2_partOf_v (t2_heldTo_v x (0 : Int32) ((f (18 + 4 * i) 0) * (3600 : Int32))) ((f (18 + 4 * i) 0) * (3600 : Int32))) rfl (fl_oks_ok ⟨t2_kc0 hi, t2_kc0 hi, True.intro⟩) rfl (by simp only [fl_row_self, upd_self]) ?_
  refine fl_Tq.cal rfl rfl (fl_oks_ok ⟨True.intro, t2_kc0 hi, True.intro⟩) rfl ?_
  refine t2_restBy_q (t2_ph hk) ?_
  show fl_Tq _ 5 36 [some (.inr (.inr (.inl (18, 18 + 4 * i)))), some (.inl x)] [.inl (t2_rb (t2_partOf_v (t2_heldTo_v x (0 : Int32) ((f (18 + 4 * i) 0) * (3600 : Int32))) ((f (18 + 4 * i) 0) * (3600 : Int32)))), .inr (.inr (.inl (18, 18 + 4 * i)))] (fl_row f (18 + 4 * i) (upd (upd (f (18 + 4 * i)) 2 (t2_heldTo_v x (0 : Int32) ((f (18 + 4 * i) 0) * (3600 : Int32)))) 3 (t2_partOf_v (t2_heldTo_v x (0 : Int32) ((f (18 + 4 * i) 0) * (3600 : Int32))) ((f (18 + 4 * i) 0) * (3600 : Int32)))), l) _
  refine fl_Tq.pfV (k := 4) (m' := (fl_row f (18 + 4 * i) (upd (upd (upd (f (18 + 4 * i)) 2 (t2_heldTo_v x (0 : Int32) ((f (18 + 4 * i) 0) * (3600 : Int32)))) 3 (t2_partOf_v (t2_heldTo_v x (0 : Int32) ((f (18 + 4 * i) 0) * (3600 : Int32))) ((f (18 + 4 * i) 0) * (3600 : Int32)))) 4 (t2_rb (t2_partOf_v (t2_heldTo_v x (0 : Int32) ((f (18 + 4 * i) 0) * (3600 : Int32))) ((f (18 + 4 * i) 0) * (3600 : Int32))))), l)) rfl (fl_oks_ok ⟨True.intro, t2_kc0 hi, True.intro⟩) rfl (t2_upr) ?_
  exact fl_Tq.ret rfl rfl rfl k
noncomputable def c0_takeOrGive_m (f : t2_F) (i : Nat) (x : Int32) : t2_F := c0_putReckoned_m (c0_putCharge_m f i ((f (18 + 4 * i) 2) + x)) i (((c0_putCharge_m f i ((f (18 + 4 * i) 2) + x)) (18 + 4 * i) 8) + x)
theorem c0_takeOrGive_fr {f : t2_F} {i : Nat} {x : Int32} {p : Nat} (e0 : p ≠ 18 + 4 * i) : c0_takeOrGive_m f i x p = f p := by
  unfold c0_takeOrGive_m
  repeat' split
  all_goals first | rfl | simp only [fl_row_ne e0, c0_putReckoned_fr e0, c0_putCharge_fr e0]
theorem c0_takeOrGive_q {L : Nat} {xs : Nat → Int32} {f : t2_F} {l : t2_L} {Q : Option fl_V → fl_M → Prop} {i : Nat} {x : Int32} (hi : i < 16) (hk : t2_cap (f (18 + 4 * i) 0)) (k : Q none (c0_takeOrGive_m f i x, l)) : fl_Tq (pw_P L xs) 13 0 (fl_args (am_mxl (pw_P L xs) 13) [.inr (.inr (.inl (18, 18 + 4 * i))), .inl x]) [] (f, l) Q := by
  refine fl_Tq.stp (pc' := 1) (lv' := [some (.inr (.inr (.inl (18, 18 + 4 * i)))), some (.inl x)]) (st' := [.inr (.inr (.inl (18, 18 + 4 * i)))]) (m' := (f, l)) rfl rfl (fl_bo rfl) rfl ?_
  refine fl_Tq.stp (pc' := 2) (lv' := [some (.inr (.inr (.inl (18, 18 + 4 * i)))), some (.inl x)]) (st' := [.inr (.inr (.inl (18, 18 + 4 * i))), .inr (.inr (.inl (18, 18 + 4 * i)))]) (m' := (f, l)) rfl rfl (fl_oks_ok ⟨t2_kc0 hi, True.intro⟩) rfl ?_
  refine fl_Tq.gfV (k := 2) (v := f (18 + 4 * i) 2) rfl (fl_oks_ok ⟨t2_kc0 hi, t2_kc0 hi, True.intro⟩) rfl rfl ?_
  refine fl_Tq.stp (pc' := 6) (lv' := [some (.inr (.inr (.inl (18, 18 + 4 * i)))), some (.inl x)]) (st' := [.inl x, .inl (f (18 + 4 * i) 2), .inr (.inr (.inl (18, 18 + 4 * i)))]) (m' := (f, l)) rfl rfl (fl_oks_ok ⟨True.intro, t2_kc0 hi, True.intro⟩) rfl ?_
  refine fl_Tq.stp (pc' := 7) (lv' := [some (.inr (.inr (.inl (18, 18 + 4 * i)))), some (.inl x)]) (st' := [.inl ((f (18 + 4 * i) 2) + x), .inr (.inr (.inl (18, 18 + 4 * i)))]) (m' := (f, l)) rfl rfl (fl_oks_ok ⟨True.intro, True.intro, t2_kc0 hi, True.intro⟩) rfl ?_
  refine fl_Tq.cal rfl rfl (fl_oks_ok ⟨True.intro, t2_kc0 hi, True.intro⟩) rfl ?_
  refine c0_putCharge_q hi hk ?_
  show fl_Tq _ 13 10 [some (.inr (.inr (.inl (18, 18 + 4 * i)))), some (.inl x)] [] (c0_putCharge_m f i ((f (18 + 4 * i) 2) + x), l) _
  refine fl_Tq.stp (pc' := 11) (lv' := [some (.inr (.inr (.inl (18, 18 + 4 * i)))), some (.inl x)]) (st' := [.inr (.inr (.inl (18, 18 + 4 * i)))]) (m' := (c0_putCharge_m f i ((f (18 + 4 * i) 2) + x), l)) rfl rfl (fl_bo rfl) rfl ?_
  refine fl_Tq.stp (pc' := 12) (lv' := [some (.inr (.inr (.inl (18, 18 + 4 * i)))), some (.inl x)]) (st' := [.inr (.inr (.inl (18, 18 + 4 * i))), .inr (.inr (.inl (18, 18 + 4 * i)))]) (m' := (c0_putCharge_m f i ((f (18 + 4 * i) 2) + x), l)) rfl rfl (fl_oks_ok ⟨t2_kc0 hi, True.intro⟩) rfl ?_
  refine fl_Tq.gfV (k := 8) (v := (c0_putCharge_m f i ((f (18 + 4 * i) 2) + x)) (18 + 4 * i) 8) rfl (fl_oks_ok ⟨t2_kc0 hi, t2_kc0 hi, True.intro⟩) rfl rfl ?_
  refine fl_Tq.stp (pc' := 16) (lv' := [some (.inr (.inr (.inl (18, 18 + 4 * i)))), some (.inl x)]) (st' := [.inl x, .inl ((c0_putCharge_m f i ((f (18 + 4 * i) 2) + x)) (18 + 4 * i) 8), .inr (.inr (.inl (18, 18 + 4 * i)))]) (m' := (c0_putCharge_m f i ((f (18 + 4 * i) 2) + x), l)) rfl rfl (fl_oks_ok ⟨True.intro, t2_kc0 hi, True.intro⟩) rfl ?_
  refine fl_Tq.stp (pc' := 17) (lv' := [some (.inr (.inr (.inl (18, 18 + 4 * i)))), some (.inl x)]) (st' := [.inl (((c0_putCharge_m f i ((f (18 + 4 * i) 2) + x)) (18 + 4 * i) 8) + x), .inr (.inr (.inl (18, 18 + 4 * i)))]) (m' := (c0_putCharge_m f i ((f (18 + 4 * i) 2) + x), l)) rfl rfl (fl_oks_ok ⟨True.intro, True.intro, t2_kc0 hi, True.intro⟩) rfl ?_
  refine fl_Tq.cal rfl rfl (fl_oks_ok ⟨True.intro, t2_kc0 hi, True.intro⟩) rfl ?_
  refine c0_putReckoned_q hi ?_
  show fl_Tq _ 13 20 [some (.inr (.inr (.inl (18, 18 + 4 * i)))), some (.inl x)] [] (c0_putReckoned_m (c0_putCharge_m f i ((f (18 + 4 * i) 2) + x)) i (((c0_putCharge_m f i ((f (18 + 4 * i) 2) + x)) (18 + 4 * i) 8) + x), l) _
  exact fl_Tq.ret rfl rfl rfl k
noncomputable def c0_giveShunt_v (f : t2_F) (i : Nat) (x : Int32) : Int32 := t2_min_v x (f (18 + 4 * i) 2)
noncomputable def c0_giveShunt_m (f : t2_F) (i : Nat) (x : Int32) : t2_F := c0_putReckoned_m (c0_putCharge_m f i ((f (18 + 4 * i) 2) - (t2_min_v x (f (18 + 4 * i) 2)))) i (((c0_putCharge_m f i ((f (18 + 4 * i) 2) - (t2_min_v x (f (18 + 4 * i) 2)))) (18 + 4 * i) 8) - x)
theorem c0_giveShunt_fr {f : t2_F} {i : Nat} {x : Int32} {p : Nat} (e0 : p ≠ 18 + 4 * i) : c0_giveShunt_m f i x p = f p := by
  unfold c0_giveShunt_m
  repeat' split
  all_goals first | rfl | simp only [fl_row_ne e0, c0_putReckoned_fr e0, c0_putCharge_fr e0]
theorem c0_giveShunt_q {L : Nat} {xs : Nat → Int32} {f : t2_F} {l : t2_L} {Q : Option fl_V → fl_M → Prop} {i : Nat} {x : Int32} (hi : i < 16) (hk : t2_cap (f (18 + 4 * i) 0)) (k : Q (some (.inl (c0_giveShunt_v f i x))) (c0_giveShunt_m f i x, l)) : fl_Tq (pw_P L xs) 12 0 (fl_args (am_mxl (pw_P L xs) 12) [.inr (.inr (.inl (18, 18 + 4 * i))), .inl x]) [] (f, l) Q := by
  refine fl_Tq.stp (pc' := 1) (lv' := [some (.inr (.inr (.inl (18, 18 + 4 * i)))), some (.inl x), none]) (st' := [.inl x]) (m' := (f, l)) rfl rfl (fl_bo rfl) rfl ?_
  refine fl_Tq.stp (pc' := 2) (lv' := [some (.inr (.inr (.inl (18, 18 + 4 * i)))), some (.inl x), none]) (st' := [.inr (.inr (.inl (18, 18 + 4 * i))), .inl x]) (m' := (f, l)) rfl rfl (fl_bo rfl) rfl ?_
  refine fl_Tq.gfV (k := 2) (v := f (18 + 4 * i) 2) rfl (fl_oks_ok ⟨t2_kc0 hi, True.intro, True.intro⟩) rfl rfl ?_
  refine fl_Tq.cal rfl rfl (fl_bo rfl) rfl ?_
  refine t2_min_q  ?_
  show fl_Tq _ 12 8 [some (.inr (.inr (.inl (18, 18 + 4 * i)))), some (.inl x), none] [.inl (t2_min_v x (f (18 + 4 * i) 2))] (f, l) _
  refine fl_Tq.stp (pc' := 9) (lv' := [some (.inr (.inr (.inl (18, 18 + 4 * i)))), some (.inl x), some (.inl (t2_min_v x (f (18 + 4 * i) 2)))]) (st' := []) (m' := (f, l)) rfl rfl (fl_bo rfl) rfl ?_
  refine fl_Tq.stp (pc' := 10) (lv' := [some (.inr (.inr (.inl (18, 18 + 4 * i)))), some (.inl x), some (.inl (t2_min_v x (f (18 + 4 * i) 2)))]) (st' := [.inr (.inr (.inl (18, 18 + 4 * i)))]) (m' := (f, l)) rfl rfl (fl_bo rfl) rfl ?_
  refine fl_Tq.stp (pc' := 11) (lv' := [some (.inr (.inr (.inl (18, 18 + 4 * i)))), some (.inl x), some (.inl (t2_min_v x (f (18 + 4 * i) 2)))]) (st' := [.inr (.inr (.inl (18, 18 + 4 * i))), .inr (.inr (.inl (18, 18 + 4 * i)))]) (m' := (f, l)) rfl rfl (fl_oks_ok ⟨t2_kc0 hi, True.intro⟩) rfl ?_
  refine fl_Tq.gfV (k := 2) (v := f (18 + 4 * i) 2) rfl (fl_oks_ok ⟨t2_kc0 hi, t2_kc0 hi, True.intro⟩) rfl rfl ?_
  refine fl_Tq.stp (pc' := 15) (lv' := [some (.inr (.inr (.inl (18, 18 + 4 * i)))), some (.inl x), some (.inl (t2_min_v x (f (18 + 4 * i) 2)))]) (st' := [.inl (t2_min_v x (f (18 + 4 * i) 2)), .inl (f (18 + 4 * i) 2), .inr (.inr (.inl (18, 18 + 4 * i)))]) (m' := (f, l)) rfl rfl (fl_oks_ok ⟨True.intro, t2_kc0 hi, True.intro⟩) rfl ?_
  refine fl_Tq.stp (pc' := 16) (lv' := [some (.inr (.inr (.inl (18, 18 + 4 * i)))), some (.inl x), some (.inl (t2_min_v x (f (18 + 4 * i) 2)))]) (st' := [.inl ((f (18 + 4 * i) 2) - (t2_min_v x (f (18 + 4 * i) 2))), .inr (.inr (.inl (18, 18 + 4 * i)))]) (m' := (f, l)) rfl rfl (fl_oks_ok ⟨True.intro, True.intro, t2_kc0 hi, True.intro⟩) rfl ?_
  refine fl_Tq.cal rfl rfl (fl_oks_ok ⟨True.intro, t2_kc0 hi, True.intro⟩) rfl ?_
  refine c0_putCharge_q hi hk ?_
  show fl_Tq _ 12 19 [some (.inr (.inr (.inl (18, 18 + 4 * i)))), some (.inl x), some (.inl (t2_min_v x (f (18 + 4 * i) 2)))] [] (c0_putCharge_m f i ((f (18 + 4 * i) 2) - (t2_min_v x (f (18 + 4 * i) 2))), l) _
  refine fl_Tq.stp (pc' := 20) (lv' := [some (.inr (.inr (.inl (18, 18 + 4 * i)))), some (.inl x), some (.inl (t2_min_v x (f (18 + 4 * i) 2)))]) (st' := [.inr (.inr (.inl (18, 18 + 4 * i)))]) (m' := (c0_putCharge_m f i ((f (18 + 4 * i) 2) - (t2_min_v x (f (18 + 4 * i) 2))), l)) rfl rfl (fl_bo rfl) rfl ?_
  refine fl_Tq.stp (pc' := 21) (lv' := [some (.inr (.inr (.inl (18, 18 + 4 * i)))), some (.inl x), some (.inl (t2_min_v x (f (18 + 4 * i) 2)))]) (st' := [.inr (.inr (.inl (18, 18 + 4 * i))), .inr (.inr (.inl (18, 18 + 4 * i)))]) (m' := (c0_putCharge_m f i ((f (18 + 4 * i) 2) - (t2_min_v x (f (18 + 4 * i) 2))), l)) rfl rfl (fl_oks_ok ⟨t2_kc0 hi, True.intro⟩) rfl ?_
  refine fl_Tq.gfV (k := 8) (v := (c0_putCharge_m f i ((f (18 + 4 * i) 2) - (t2_min_v x (f (18 + 4 * i) 2)))) (18 + 4 * i) 8) rfl (fl_oks_ok ⟨t2_kc0 hi, t2_kc0 hi, True.intro⟩) rfl rfl ?_
  refine fl_Tq.stp (pc' := 25) (lv' := [some (.inr (.inr (.inl (18, 18 + 4 * i)))), some (.inl x), some (.inl (t2_min_v x (f (18 + 4 * i) 2)))]) (st' := [.inl x, .inl ((c0_putCharge_m f i ((f (18 + 4 * i) 2) - (t2_min_v x (f (18 + 4 * i) 2)))) (18 + 4 * i) 8), .inr (.inr (.inl (18, 18 + 4 * i)))]) (m' := (c0_putCharge_m f i ((f (18 + 4 * i) 2) - (t2_min_v x (f (18 + 4 * i) 2))), l)) rfl rfl (fl_oks_ok ⟨True.intro, t2_kc0 hi, True.intro⟩) rfl ?_
  refine fl_Tq.stp (pc' := 26) (lv' := [some (.inr (.inr (.inl (18, 18 + 4 * i)))), some (.inl x), some (.inl (t2_min_v x (f (18 + 4 * i) 2)))]) (st' := [.inl (((c0_putCharge_m f i ((f (18 + 4 * i) 2) - (t2_min_v x (f (18 + 4 * i) 2)))) (18 + 4 * i) 8) - x), .inr (.inr (.inl (18, 18 + 4 * i)))]) (m' := (c0_putCharge_m f i ((f (18 + 4 * i) 2) - (t2_min_v x (f (18 + 4 * i) 2))), l)) rfl rfl (fl_oks_ok ⟨True.intro, True.intro, t2_kc0 hi, True.intro⟩) rfl ?_
  refine fl_Tq.cal rfl rfl (fl_oks_ok ⟨True.intro, t2_kc0 hi, True.intro⟩) rfl ?_
  refine c0_putReckoned_q hi ?_
  show fl_Tq _ 12 29 [some (.inr (.inr (.inl (18, 18 + 4 * i)))), some (.inl x), some (.inl (t2_min_v x (f (18 + 4 * i) 2)))] [] (c0_putReckoned_m (c0_putCharge_m f i ((f (18 + 4 * i) 2) - (t2_min_v x (f (18 + 4 * i) 2)))) i (((c0_putCharge_m f i ((f (18 + 4 * i) 2) - (t2_min_v x (f (18 + 4 * i) 2)))) (18 + 4 * i) 8) - x), l) _
  refine fl_Tq.stp (pc' := 30) (lv' := [some (.inr (.inr (.inl (18, 18 + 4 * i)))), some (.inl x), some (.inl (t2_min_v x (f (18 + 4 * i) 2)))]) (st' := [.inl (t2_min_v x (f (18 + 4 * i) 2))]) (m' := (c0_putReckoned_m (c0_putCharge_m f i ((f (18 + 4 * i) 2) - (t2_min_v x (f (18 + 4 * i) 2)))) i (((c0_putCharge_m f i ((f (18 + 4 * i) 2) - (t2_min_v x (f (18 + 4 * i) 2)))) (18 + 4 * i) 8) - x), l)) rfl rfl (fl_bo rfl) rfl ?_
  exact fl_Tq.ret rfl rfl rfl k
noncomputable def c0_wear_m (f : t2_F) (i : Nat) (x : Int32) : t2_F := if 0 < (x * (3600 : Int32)).toInt then (if (f (18 + 4 * i) 9).toInt < (x * (3600 : Int32)).toInt then f else c0_putReckoned_m (fl_row f (18 + 4 * i) (upd (upd (f (18 + 4 * i)) 0 (t2_max_v (100 : Int32) ((f (18 + 4 * i) 0) - ((f (18 + 4 * i) 9) / (x * (3600 : Int32)))))) 9 ((f (18 + 4 * i) 9) - (f (18 + 4 * i) 9) / (x * (3600 : Int32)) * (x * (3600 : Int32))))) i (f (18 + 4 * i) 8)) else f
theorem c0_wear_fr {f : t2_F} {i : Nat} {x : Int32} {p : Nat} (e0 : p ≠ 18 + 4 * i) : c0_wear_m f i x p = f p := by
  unfold c0_wear_m
  repeat' split
  all_goals first | rfl | simp only [fl_row_ne e0, c0_putReckoned_fr e0]
theorem c0_wear_q {L : Nat} {xs : Nat → Int32} {f : t2_F} {l : t2_L} {Q : Option fl_V → fl_M → Prop} {i : Nat} {x : Int32} (hi : i < 16) (k : Q none (c0_wear_m f i x, l)) : fl_Tq (pw_P L xs) 11 0 (fl_args (am_mxl (pw_P L xs) 11) [.inr (.inr (.inl (18, 18 + 4 * i))), .inl x]) [] (f, l) Q := by
  refine fl_Tq.stp (pc' := 1) (lv' := [some (.inr (.inr (.inl (18, 18 + 4 * i)))), some (.inl x), none]) (st' := [.inl x]) (m' := (f, l)) rfl rfl (fl_bo rfl) rfl ?_
  refine fl_Tq.cS (c := (3600 : Int32)) rfl (by decide +kernel) (fl_bo rfl) ?_
  refine fl_Tq.stp (pc' := 5) (lv' := [some (.inr (.inr (.inl (18, 18 + 4 * i)))), some (.inl x), none]) (st' := [.inl (x * (3600 : Int32))]) (m' := (f, l)) rfl rfl (fl_bo rfl) rfl ?_
  refine fl_Tq.stp (pc' := 6) (lv' := [some (.inr (.inr (.inl (18, 18 + 4 * i)))), some (.inl x), some (.inl (x * (3600 : Int32)))]) (st' := []) (m' := (f, l)) rfl rfl (fl_bo rfl) rfl ?_
  refine fl_Tq.stp (pc' := 7) (lv' := [some (.inr (.inr (.inl (18, 18 + 4 * i)))), some (.inl x), some (.inl (x * (3600 : Int32)))]) (st' := [.inl (x * (3600 : Int32))]) (m' := (f, l)) rfl rfl (fl_bo rfl) rfl ?_
  by_cases h1 : 0 < (x * (3600 : Int32)).toInt
  · refine fl_Tq.zf rfl (fl_bo rfl) (c1_le_f h1) rfl ?_
    refine fl_Tq.stp (pc' := 11) (lv' := [some (.inr (.inr (.inl (18, 18 + 4 * i)))), some (.inl x), some (.inl (x * (3600 : Int32)))]) (st' := [.inr (.inr (.inl (18, 18 + 4 * i)))]) (m' := (f, l)) rfl rfl (fl_bo rfl) rfl ?_
    refine fl_Tq.gfV (k := 9) (v := f (18 + 4 * i) 9) rfl (fl_oks_ok ⟨t2_kc0 hi, True.intro⟩) rfl rfl ?_
    refine fl_Tq.stp (pc' := 15) (lv' := [some (.inr (.inr (.inl (18, 18 + 4 * i)))), some (.inl x), some (.inl (x * (3600 : Int32)))]) (st' := [.inl (x * (3600 : Int32)), .inl (f (18 + 4 * i) 9)]) (m' := (f, l)) rfl rfl (fl_bo rfl) rfl ?_
    by_cases h2 : (f (18 + 4 * i) 9).toInt < (x * (3600 : Int32)).toInt
    · refine fl_Tq.jf rfl (fl_bo rfl) (c2_ge_f h2) rfl ?_
      refine fl_Tq.ret rfl rfl rfl ?_
      unfold c0_wear_m at k
      simp only [if_pos h1, if_pos h2] at k
      exact k
    · refine fl_Tq.jt rfl (fl_bo rfl) (c2_ge_t h2) rfl ?_
      refine fl_Tq.stp (pc' := 20) (lv' := [some (.inr (.inr (.inl (18, 18 + 4 * i)))), some (.inl x), some (.inl (x * (3600 : Int32)))]) (st' := [.inr (.inr (.inl (18, 18 + 4 * i)))]) (m' := (f, l)) rfl rfl (fl_bo rfl) rfl ?_
      refine fl_Tq.cB (c := (100 : Int32)) rfl (by decide +kernel) (fl_oks_ok ⟨t2_kc0 hi, True.intro⟩) ?_
      refine fl_Tq.stp (pc' := 23) (lv' := [some (.inr (.inr (.inl (18, 18 + 4 * i)))), some (.inl x), some (.inl (x * (3600 : Int32)))]) (st' := [.inr (.inr (.inl (18, 18 + 4 * i))), .inl (100 : Int32), .inr (.inr (.inl (18, 18 + 4 * i)))]) (m' := (f, l)) rfl rfl (fl_oks_ok ⟨True.intro, t2_kc0 hi, True.intro⟩) rfl ?_
      refine fl_Tq.gfV (k := 0) (v := f (18 + 4 * i) 0) rfl (fl_oks_ok ⟨t2_kc0 hi, True.intro, t2_kc0 hi, True.intro⟩) rfl rfl ?_
      refine fl_Tq.stp (pc' := 27) (lv' := [some (.inr (.inr (.inl (18, 18 + 4 * i)))), some (.inl x), some (.inl (x * (3600 : Int32)))]) (st' := [.inr (.inr (.inl (18, 18 + 4 * i))), .inl (f (18 + 4 * i) 0), .inl (100 : Int32), .inr (.inr (.inl (18, 18 + 4 * i)))]) (m' := (f, l)) rfl rfl (fl_oks_ok ⟨True.intro, True.intro, t2_kc0 hi, True.intro⟩) rfl ?_
      refine fl_Tq.gfV (k := 9) (v := f (18 + 4 * i) 9) rfl (fl_oks_ok ⟨t2_kc0 hi, True.intro, True.intro, t2_kc0 hi, True.intro⟩) rfl rfl ?_
      refine fl_Tq.stp (pc' := 31) (lv' := [some (.inr (.inr (.inl (18, 18 + 4 * i)))), some (.inl x), some (.inl (x * (3600 : Int32)))]) (st' := [.inl (x * (3600 : Int32)), .inl (f (18 + 4 * i) 9), .inl (f (18 + 4 * i) 0), .inl (100 : Int32), .inr (.inr (.inl (18, 18 + 4 * i)))]) (m' := (f, l)) rfl rfl (fl_oks_ok ⟨True.intro, True.intro, True.intro, t2_kc0 hi, True.intro⟩) rfl ?_
      refine fl_Tq.dv rfl (fl_oks_ok ⟨True.intro, True.intro, True.intro, True.intro, t2_kc0 hi, True.intro⟩) (t2_nzp h1) ?_
      refine fl_Tq.stp (pc' := 33) (lv' := [some (.inr (.inr (.inl (18, 18 + 4 * i)))), some (.inl x), some (.inl (x * (3600 : Int32)))]) (st' := [.inl ((f (18 + 4 * i) 0) - ((f (18 + 4 * i) 9) / (x * (3600 : Int32)))), .inl (100 : Int32), .inr (.inr (.inl (18, 18 + 4 * i)))]) (m' := (f, l)) rfl rfl (fl_oks_ok ⟨True.intro, True.intro, True.intro, t2_kc0 hi, True.intro⟩) rfl ?_
      refine fl_Tq.cal rfl rfl (fl_oks_ok ⟨True.intro, True.intro, t2_kc0 hi, True.intro⟩) rfl ?_
      refine t2_max_q  ?_
      show fl_Tq _ 11 36 [some (.inr (.inr (.inl (18, 18 + 4 * i)))), some (.inl x), some (.inl (x * (3600 : Int32)))] [.inl (t2_max_v (100 : Int32) ((f (18 + 4 * i) 0) - ((f (18 + 4 * i) 9) / (x * (3600 : Int32))))), .inr (.inr (.inl (18, 18 + 4 * i)))] (f, l) _
      refine fl_Tq.pfV (k := 0) (m' := (fl_row f (18 + 4 * i) (upd (f (18 + 4 * i)) 0 (t2_max_v (100 : Int32) ((f (18 + 4 * i) 0) - ((f (18 + 4 * i) 9) / (x * (3600 : Int32)))))), l)) rfl (fl_oks_ok ⟨True.intro, t2_kc0 hi, True.intro⟩) rfl (t2_upn rfl) ?_
      refine fl_Tq.stp (pc' := 40) (lv' := [some (.inr (.inr (.inl (18, 18 + 4 * i)))), some (.inl x), some (.inl (x * (3600 : Int32)))]) (st' := [.inr (.inr (.inl (18, 18 + 4 * i)))]) (m' := (fl_row f (18 + 4 * i) (upd (f (18 + 4 * i)) 0 (t2_max_v (100 : Int32) ((f (18 + 4 * i) 0) - ((f (18 + 4 * i) 9) / (x * (3600 : Int32)))))), l)) rfl rfl (fl_bo rfl) rfl ?_
      refine fl_Tq.stp (pc' := 41) (lv' := [some (.inr (.inr (.inl (18, 18 + 4 * i)))), some (.inl x), some (.inl (x * (3600 : Int32)))]) (st' := [.inr (.inr (.inl (18, 18 + 4 * i))), .inr (.inr (.inl (18, 18 + 4 * i)))]) (m' := (fl_row f (18 + 4 * i) (upd (f (18 + 4 * i)) 0 (t2_max_v (100 : Int32) ((f (18 + 4 * i) 0) - ((f (18 + 4 * i) 9) / (x * (3600 : Int32)))))), l)) rfl rfl (fl_oks_ok ⟨t2_kc0 hi, True.intro⟩) rfl ?_
      refine fl_Tq.gfV (k := 9) (v := f (18 + 4 * i) 9) rfl (fl_oks_ok ⟨t2_kc0 hi, t2_kc0 hi, True.intro⟩) rfl (by simp only [fl_row_self, upd_ne (by decide : 9 ≠ 0)]) ?_
      refine fl_Tq.stp (pc' := 45) (lv' := [some (.inr (.inr (.inl (18, 18 + 4 * i)))), some (.inl x), some (.inl (x * (3600 : Int32)))]) (st' := [.inl (x * (3600 : Int32)), .inl (f (18 + 4 * i) 9), .inr (.inr (.inl (18, 18 + 4 * i)))]) (m' := (fl_row f (18 + 4 * i) (upd (f (18 + 4 * i)) 0 (t2_max_v (100 : Int32) ((f (18 + 4 * i) 0) - ((f (18 + 4 * i) 9) / (x * (3600 : Int32)))))), l)) rfl rfl (fl_oks_ok ⟨True.intro, t2_kc0 hi, True.intro⟩) rfl ?_
      refine fl_Tq.rm rfl (fl_oks_ok ⟨True.intro, True.intro, t2_kc0 hi, True.intro⟩) (t2_nzp h1) ?_
      refine fl_Tq.pfV (k := 9) (m' := (fl_row f (18 + 4 * i) (upd (upd (f (18 + 4 * i)) 0 (t2_max_v (100 : Int32) ((f (18 + 4 * i) 0) - ((f (18 + 4 * i) 9) / (x * (3600 : Int32)))))) 9 ((f (18 + 4 * i) 9) - (f (18 + 4 * i) 9) / (x * (3600 : Int32)) * (x * (3600 : Int32)))), l)) rfl (fl_oks_ok ⟨True.intro, t2_kc0 hi, True.intro⟩) rfl (t2_upr) ?_
      refine fl_Tq.stp (pc' := 50) (lv' := [some (.inr (.inr (.inl (18, 18 + 4 * i)))), some (.inl x), some (.inl (x * (3600 : Int32)))]) (st' := [.inr (.inr (.inl (18, 18 + 4 * i)))]) (m' := (fl_row f (18 + 4 * i) (upd (upd (f (18 + 4 * i)) 0 (t2_max_v (100 : Int32) ((f (18 + 4 * i) 0) - ((f (18 + 4 * i) 9) / (x * (3600 : Int32)))))) 9 ((f (18 + 4 * i) 9) - (f (18 + 4 * i) 9) / (x * (3600 : Int32)) * (x * (3600 : Int32)))), l)) rfl rfl (fl_bo rfl) rfl ?_
      refine fl_Tq.stp (pc' := 51) (lv' := [some (.inr (.inr (.inl (18, 18 + 4 * i)))), some (.inl x), some (.inl (x * (3600 : Int32)))]) (st' := [.inr (.inr (.inl (18, 18 + 4 * i))), .inr (.inr (.inl (18, 18 + 4 * i)))]) (m' := (fl_row f (18 + 4 * i) (upd (upd (f (18 + 4 * i)) 0 (t2_max_v (100 : Int32) ((f (18 + 4 * i) 0) - ((f (18 + 4 * i) 9) / (x * (3600 : Int32)))))) 9 ((f (18 + 4 * i) 9) - (f (18 + 4 * i) 9) / (x * (3600 : Int32)) * (x * (3600 : Int32)))), l)) rfl rfl (fl_oks_ok ⟨t2_kc0 hi, True.intro⟩) rfl ?_
      refine fl_Tq.gfV (k := 8) (v := f (18 + 4 * i) 8) rfl (fl_oks_ok ⟨t2_kc0 hi, t2_kc0 hi, True.intro⟩) rfl (by simp only [fl_row_self, upd_ne (by decide : 8 ≠ 9), upd_ne (by decide : 8 ≠ 0)]) ?_
      refine fl_Tq.cal rfl rfl (fl_oks_ok ⟨True.intro, t2_kc0 hi, True.intro⟩) rfl ?_
      refine c0_putReckoned_q hi ?_
      show fl_Tq _ 11 57 [some (.inr (.inr (.inl (18, 18 + 4 * i)))), some (.inl x), some (.inl (x * (3600 : Int32)))] [] (c0_putReckoned_m (fl_row f (18 + 4 * i) (upd (upd (f (18 + 4 * i)) 0 (t2_max_v (100 : Int32) ((f (18 + 4 * i) 0) - ((f (18 + 4 * i) 9) / (x * (3600 : Int32)))))) 9 ((f (18 + 4 * i) 9) - (f (18 + 4 * i) 9) / (x * (3600 : Int32)) * (x * (3600 : Int32))))) i (f (18 + 4 * i) 8), l) _
      refine fl_Tq.ret rfl rfl rfl ?_
      unfold c0_wear_m at k
      simp only [if_pos h1, if_neg h2] at k
      exact k
  · refine fl_Tq.zt rfl (fl_bo rfl) (c1_le_t h1) rfl ?_
    refine fl_Tq.ret rfl rfl rfl ?_
    unfold c0_wear_m at k
    simp only [if_neg h1] at k
    exact k
theorem c0_wear_cap {f : t2_F} {i : Nat} {x : Int32} (hk : t2_cap (f (18 + 4 * i) 0)) : t2_cap (c0_wear_m f i x (18 + 4 * i) 0) := by
  unfold c0_wear_m
  split
  · rename_i h1
    split
    · exact hk
    · rename_i h2
      unfold c0_putReckoned_m
      rw [fl_row_self, upd_ne (by decide : 0 ≠ 8), fl_row_self, upd_ne (by decide : 0 ≠ 9), upd_self]
      have e := at_div32 (x := f (18 + 4 * i) 9) (y := x * (3600 : Int32)) (by omega) h1
      have e0 : 0 ≤ (f (18 + 4 * i) 9).toInt / (x * (3600 : Int32)).toInt := Int.ediv_nonneg (by omega) (by omega)
      rw [← e] at e0
      generalize (f (18 + 4 * i) 9) / (x * (3600 : Int32)) = q at e0
      have b1 := at_i32 q
      obtain ⟨k1, k2⟩ := hk
      have e2 : ((f (18 + 4 * i) 0) - q).toInt = (f (18 + 4 * i) 0).toInt - q.toInt := at_sub32 (by omega) (by omega)
      have e3 : (100 : Int32).toInt = 100 := by decide +kernel
      unfold t2_max_v t2_cap
      split
      · rw [e2] at *
        omega
      · rw [e3]
        omega
  · exact hk
noncomputable def c0_pass_m (f : t2_F) (i : Nat) (x : Int32) : t2_F := c0_putReckoned_m (c0_putCharge_m (c0_wear_m (fl_row f (18 + 4 * i) (upd (upd (upd (f (18 + 4 * i)) 6 (((f (18 + 4 * i) 6) + ((((x / (1000 : Int32)) * (x / (1000 : Int32))) * (f (18 + 4 * i) 5)) / (500 : Int32))) + (((f 4 6) - ((f (18 + 4 * i) 6) + ((((x / (1000 : Int32)) * (x / (1000 : Int32))) * (f (18 + 4 * i) 5)) / (500 : Int32)))) / (32 : Int32)))) 7 ((f (18 + 4 * i) 7) + ((((x * (f 4 25)) / (1000 : Int32)) - (f (18 + 4 * i) 7)) / (8 : Int32)))) 9 ((f (18 + 4 * i) 9) + (t2_abs_v x)))) i (f 4 24)) i (t2_heldTo_v (((f (18 + 4 * i) 2) + x) - (f 4 27)) (0 : Int32) ((f (18 + 4 * i) 0) * (3600 : Int32)))) i ((((c0_putCharge_m (c0_wear_m (fl_row f (18 + 4 * i) (upd (upd (upd (f (18 + 4 * i)) 6 (((f (18 + 4 * i) 6) + ((((x / (1000 : Int32)) * (x / (1000 : Int32))) * (f (18 + 4 * i) 5)) / (500 : Int32))) + (((f 4 6) - ((f (18 + 4 * i) 6) + ((((x / (1000 : Int32)) * (x / (1000 : Int32))) * (f (18 + 4 * i) 5)) / (500 : Int32)))) / (32 : Int32)))) 7 ((f (18 + 4 * i) 7) + ((((x * (f 4 25)) / (1000 : Int32)) - (f (18 + 4 * i) 7)) / (8 : Int32)))) 9 ((f (18 + 4 * i) 9) + (t2_abs_v x)))) i (f 4 24)) i (t2_heldTo_v (((f (18 + 4 * i) 2) + x) - (f 4 27)) (0 : Int32) ((f (18 + 4 * i) 0) * (3600 : Int32)))) (18 + 4 * i) 8) + x) + (f 4 18))
theorem c0_pass_fr {f : t2_F} {i : Nat} {x : Int32} {p : Nat} (e0 : p ≠ 18 + 4 * i) : c0_pass_m f i x p = f p := by
  unfold c0_pass_m
  repeat' split
  all_goals first | rfl | simp only [fl_row_ne e0, c0_putReckoned_fr e0, c0_putCharge_fr e0, c0_wear_fr e0]
theorem c0_pass_q {L : Nat} {xs : Nat → Int32} {f : t2_F} {l : t2_L} {Q : Option fl_V → fl_M → Prop} {i : Nat} {x : Int32} (hi : i < 16) (hk : t2_cap (f (18 + 4 * i) 0)) (k : Q none (c0_pass_m f i x, l)) : fl_Tq (pw_P L xs) 10 0 (fl_args (am_mxl (pw_P L xs) 10) [.inr (.inr (.inl (18, 18 + 4 * i))), .inl x, .inr (.inr (.inl (3, 3)))]) [] (f, l) Q := by
  refine fl_Tq.stp (pc' := 1) (lv' := [some (.inr (.inr (.inl (18, 18 + 4 * i)))), some (.inl x), some (.inr (.inr (.inl (3, 3)))), none, none, none]) (st' := [.inr (.inr (.inl (3, 3)))]) (m' := (f, l)) rfl rfl (fl_bo rfl) rfl ?_
  refine fl_Tq.stp (pc' := 4) (lv' := [some (.inr (.inr (.inl (18, 18 + 4 * i)))), some (.inl x), some (.inr (.inr (.inl (3, 3)))), none, none, none]) (st' := [.inr (.inr (.inl (4, 4)))]) (m' := (f, l)) rfl rfl (fl_bo rfl) rfl ?_
  refine fl_Tq.stp (pc' := 5) (lv' := [some (.inr (.inr (.inl (18, 18 + 4 * i)))), some (.inl x), some (.inr (.inr (.inl (3, 3)))), some (.inr (.inr (.inl (4, 4)))), none, none]) (st' := []) (m' := (f, l)) rfl rfl (fl_bo rfl) rfl ?_
  refine fl_Tq.stp (pc' := 6) (lv' := [some (.inr (.inr (.inl (18, 18 + 4 * i)))), some (.inl x), some (.inr (.inr (.inl (3, 3)))), some (.inr (.inr (.inl (4, 4)))), none, none]) (st' := [.inr (.inr (.inl (18, 18 + 4 * i)))]) (m' := (f, l)) rfl rfl (fl_bo rfl) rfl ?_
  refine fl_Tq.gfV (k := 2) (v := f (18 + 4 * i) 2) rfl (fl_oks_ok ⟨t2_kc0 hi, True.intro⟩) rfl rfl ?_
  refine fl_Tq.stp (pc' := 10) (lv' := [some (.inr (.inr (.inl (18, 18 + 4 * i)))), some (.inl x), some (.inr (.inr (.inl (3, 3)))), some (.inr (.inr (.inl (4, 4)))), none, none]) (st' := [.inl x, .inl (f (18 + 4 * i) 2)]) (m' := (f, l)) rfl rfl (fl_bo rfl) rfl ?_
  refine fl_Tq.stp (pc' := 11) (lv' := [some (.inr (.inr (.inl (18, 18 + 4 * i)))), some (.inl x), some (.inr (.inr (.inl (3, 3)))), some (.inr (.inr (.inl (4, 4)))), none, none]) (st' := [.inl ((f (18 + 4 * i) 2) + x)]) (m' := (f, l)) rfl rfl (fl_bo rfl) rfl ?_
  refine fl_Tq.stp (pc' := 12) (lv' := [some (.inr (.inr (.inl (18, 18 + 4 * i)))), some (.inl x), some (.inr (.inr (.inl (3, 3)))), some (.inr (.inr (.inl (4, 4)))), none, none]) (st' := [.inr (.inr (.inl (4, 4))), .inl ((f (18 + 4 * i) 2) + x)]) (m' := (f, l)) rfl rfl (fl_bo rfl) rfl ?_
  refine fl_Tq.cB (c := (27 : Int32)) rfl (by decide +kernel) (fl_bo rfl) ?_
  refine fl_Tq.ldV (p := 4) (τ := 4) (n := 30) (z := (0, 0, 0)) (k := 27) (v := f 4 27) rfl (fl_bo rfl) rfl (by decide +kernel) (by decide) rfl ?_
  refine fl_Tq.stp (pc' := 16) (lv' := [some (.inr (.inr (.inl (18, 18 + 4 * i)))), some (.inl x), some (.inr (.inr (.inl (3, 3)))), some (.inr (.inr (.inl (4, 4)))), none, none]) (st' := [.inl (((f (18 + 4 * i) 2) + x) - (f 4 27))]) (m' := (f, l)) rfl rfl (fl_bo rfl) rfl ?_
  refine fl_Tq.cI (c := (0 : Int32)) rfl (by decide +kernel) (fl_bo rfl) ?_
  refine fl_Tq.stp (pc' := 18) (lv' := [some (.inr (.inr (.inl (18, 18 + 4 * i)))), some (.inl x), some (.inr (.inr (.inl (3, 3)))), some (.inr (.inr (.inl (4, 4)))), none, none]) (st' := [.inr (.inr (.inl (18, 18 + 4 * i))), .inl (0 : Int32), .inl (((f (18 + 4 * i) 2) + x) - (f 4 27))]) (m' := (f, l)) rfl rfl (fl_bo rfl) rfl ?_
  refine fl_Tq.cal rfl rfl (fl_oks_ok ⟨t2_kc0 hi, True.intro, True.intro, True.intro⟩) rfl ?_
  refine fl_Tq.stp (pc' := 1) (lv' := [some (.inr (.inr (.inl (18, 18 + 4 * i))))]) (st' := [.inr (.inr (.inl (18, 18 + 4 * i)))]) (m' := (f, l)) rfl rfl (fl_bo rfl) rfl ?_
  refine fl_Tq.gfV (k := 0) (v := f (18 + 4 * i) 0) rfl (fl_oks_ok ⟨t2_kc0 hi, True.intro⟩) rfl rfl ?_
  refine fl_Tq.cS (c := (3600 : Int32)) rfl (by decide +kernel) (fl_bo rfl) ?_
  refine fl_Tq.stp (pc' := 8) (lv' := [some (.inr (.inr (.inl (18, 18 + 4 * i))))]) (st' := [.inl ((f (18 + 4 * i) 0) * (3600 : Int32))]) (m' := (f, l)) rfl rfl (fl_bo rfl) rfl ?_
  refine fl_Tq.ret rfl rfl rfl ?_
  show fl_Tq _ 10 21 [some (.inr (.inr (.inl (18, 18 + 4 * i)))), some (.inl x), some (.inr (.inr (.inl (3, 3)))), some (.inr (.inr (.inl (4, 4)))), none, none] [.inl ((f (18 + 4 * i) 0) * (3600 : Int32)), .inl (0 : Int32), .inl (((f (18 + 4 * i) 2) + x) - (f 4 27))] (f, l) _
  refine fl_Tq.cal rfl rfl (fl_bo rfl) rfl ?_
  refine t2_heldTo_q  ?_
  show fl_Tq _ 10 24 [some (.inr (.inr (.inl (18, 18 + 4 * i)))), some (.inl x), some (.inr (.inr (.inl (3, 3)))), some (.inr (.inr (.inl (4, 4)))), none, none] [.inl (t2_heldTo_v (((f (18 + 4 * i) 2) + x) - (f 4 27)) (0 : Int32) ((f (18 + 4 * i) 0) * (3600 : Int32)))] (f, l) _
  refine fl_Tq.stp (pc' := 26) (lv' := [some (.inr (.inr (.inl (18, 18 + 4 * i)))), some (.inl x), some (.inr (.inr (.inl (3, 3)))), some (.inr (.inr (.inl (4, 4)))), some (.inl (t2_heldTo_v (((f (18 + 4 * i) 2) + x) - (f 4 27)) (0 : Int32) ((f (18 + 4 * i) 0) * (3600 : Int32)))), none]) (st' := []) (m' := (f, l)) rfl rfl (fl_bo rfl) rfl ?_
  refine fl_Tq.stp (pc' := 27) (lv' := [some (.inr (.inr (.inl (18, 18 + 4 * i)))), some (.inl x), some (.inr (.inr (.inl (3, 3)))), some (.inr (.inr (.inl (4, 4)))), some (.inl (t2_heldTo_v (((f (18 + 4 * i) 2) + x) - (f 4 27)) (0 : Int32) ((f (18 + 4 * i) 0) * (3600 : Int32)))), none]) (st' := [.inl x]) (m' := (f, l)) rfl rfl (fl_bo rfl) rfl ?_
  refine fl_Tq.cS (c := (1000 : Int32)) rfl (by decide +kernel) (fl_bo rfl) ?_
  refine fl_Tq.dv rfl (fl_bo rfl) (by decide +kernel) ?_
  refine fl_Tq.stp (pc' := 33) (lv' := [some (.inr (.inr (.inl (18, 18 + 4 * i)))), some (.inl x), some (.inr (.inr (.inl (3, 3)))), some (.inr (.inr (.inl (4, 4)))), some (.inl (t2_heldTo_v (((f (18 + 4 * i) 2) + x) - (f 4 27)) (0 : Int32) ((f (18 + 4 * i) 0) * (3600 : Int32)))), some (.inl (x / (1000 : Int32)))]) (st' := []) (m' := (f, l)) rfl rfl (fl_bo rfl) rfl ?_
  refine fl_Tq.stp (pc' := 34) (lv' := [some (.inr (.inr (.inl (18, 18 + 4 * i)))), some (.inl x), some (.inr (.inr (.inl (3, 3)))), some (.inr (.inr (.inl (4, 4)))), some (.inl (t2_heldTo_v (((f (18 + 4 * i) 2) + x) - (f 4 27)) (0 : Int32) ((f (18 + 4 * i) 0) * (3600 : Int32)))), some (.inl (x / (1000 : Int32)))]) (st' := [.inr (.inr (.inl (18, 18 + 4 * i)))]) (m' := (f, l)) rfl rfl (fl_bo rfl) rfl ?_
  refine fl_Tq.stp (pc' := 35) (lv' := [some (.inr (.inr (.inl (18, 18 + 4 * i)))), some (.inl x), some (.inr (.inr (.inl (3, 3)))), some (.inr (.inr (.inl (4, 4)))), some (.inl (t2_heldTo_v (((f (18 + 4 * i) 2) + x) - (f 4 27)) (0 : Int32) ((f (18 + 4 * i) 0) * (3600 : Int32)))), some (.inl (x / (1000 : Int32)))]) (st' := [.inr (.inr (.inl (18, 18 + 4 * i))), .inr (.inr (.inl (18, 18 + 4 * i)))]) (m' := (f, l)) rfl rfl (fl_oks_ok ⟨t2_kc0 hi, True.intro⟩) rfl ?_
  refine fl_Tq.gfV (k := 6) (v := f (18 + 4 * i) 6) rfl (fl_oks_ok ⟨t2_kc0 hi, t2_kc0 hi, True.intro⟩) rfl rfl ?_
  refine fl_Tq.stp (pc' := 40) (lv' := [some (.inr (.inr (.inl (18, 18 + 4 * i)))), some (.inl x), some (.inr (.inr (.inl (3, 3)))), some (.inr (.inr (.inl (4, 4)))), some (.inl (t2_heldTo_v (((f (18 + 4 * i) 2) + x) - (f 4 27)) (0 : Int32) ((f (18 + 4 * i) 0) * (3600 : Int32)))), some (.inl (x / (1000 : Int32)))]) (st' := [.inl (x / (1000 : Int32)), .inl (f (18 + 4 * i) 6), .inr (.inr (.inl (18, 18 + 4 * i)))]) (m' := (f, l)) rfl rfl (fl_oks_ok ⟨True.intro, t2_kc0 hi, True.intro⟩) rfl ?_
  refine fl_Tq.stp (pc' := 42) (lv' := [some (.inr (.inr (.inl (18, 18 + 4 * i)))), some (.inl x), some (.inr (.inr (.inl (3, 3)))), some (.inr (.inr (.inl (4, 4)))), some (.inl (t2_heldTo_v (((f (18 + 4 * i) 2) + x) - (f 4 27)) (0 : Int32) ((f (18 + 4 * i) 0) * (3600 : Int32)))), some (.inl (x / (1000 : Int32)))]) (st' := [.inl (x / (1000 : Int32)), .inl (x / (1000 : Int32)), .inl (f (18 + 4 * i) 6), .inr (.inr (.inl (18, 18 + 4 * i)))]) (m' := (f, l)) rfl rfl (fl_oks_ok ⟨True.intro, True.intro, t2_kc0 hi, True.intro⟩) rfl ?_
  refine fl_Tq.stp (pc' := 43) (lv' := [some (.inr (.inr (.inl (18, 18 + 4 * i)))), some (.inl x), some (.inr (.inr (.inl (3, 3)))), some (.inr (.inr (.inl (4, 4)))), some (.inl (t2_heldTo_v (((f (18 + 4 * i) 2) + x) - (f 4 27)) (0 : Int32) ((f (18 + 4 * i) 0) * (3600 : Int32)))), some (.inl (x / (1000 : Int32)))]) (st' := [.inl ((x / (1000 : Int32)) * (x / (1000 : Int32))), .inl (f (18 + 4 * i) 6), .inr (.inr (.inl (18, 18 + 4 * i)))]) (m' := (f, l)) rfl rfl (fl_oks_ok ⟨True.intro, True.intro, True.intro, t2_kc0 hi, True.intro⟩) rfl ?_
  refine fl_Tq.stp (pc' := 44) (lv' := [some (.inr (.inr (.inl (18, 18 + 4 * i)))), some (.inl x), some (.inr (.inr (.inl (3, 3)))), some (.inr (.inr (.inl (4, 4)))), some (.inl (t2_heldTo_v (((f (18 + 4 * i) 2) + x) - (f 4 27)) (0 : Int32) ((f (18 + 4 * i) 0) * (3600 : Int32)))), some (.inl (x / (1000 : Int32)))]) (st' := [.inr (.inr (.inl (18, 18 + 4 * i))), .inl ((x / (1000 : Int32)) * (x / (1000 : Int32))), .inl (f (18 + 4 * i) 6), .inr (.inr (.inl (18, 18 + 4 * i)))]) (m' := (f, l)) rfl rfl (fl_oks_ok ⟨True.intro, True.intro, t2_kc0 hi, True.intro⟩) rfl ?_
  refine fl_Tq.gfV (k := 5) (v := f (18 + 4 * i) 5) rfl (fl_oks_ok ⟨t2_kc0 hi, True.intro, True.intro, t2_kc0 hi, True.intro⟩) rfl rfl ?_
  refine fl_Tq.stp (pc' := 48) (lv' := [some (.inr (.inr (.inl (18, 18 + 4 * i)))), some (.inl x), some (.inr (.inr (.inl (3, 3)))), some (.inr (.inr (.inl (4, 4)))), some (.inl (t2_heldTo_v (((f (18 + 4 * i) 2) + x) - (f 4 27)) (0 : Int32) ((f (18 + 4 * i) 0) * (3600 : Int32)))), some (.inl (x / (1000 : Int32)))]) (st' := [.inl (((x / (1000 : Int32)) * (x / (1000 : Int32))) * (f (18 + 4 * i) 5)), .inl (f (18 + 4 * i) 6), .inr (.inr (.inl (18, 18 + 4 * i)))]) (m' := (f, l)) rfl rfl (fl_oks_ok ⟨True.intro, True.intro, True.intro, t2_kc0 hi, True.intro⟩) rfl ?_
  refine fl_Tq.cS (c := (500 : Int32)) rfl (by decide +kernel) (fl_oks_ok ⟨True.intro, True.intro, t2_kc0 hi, True.intro⟩) ?_
  refine fl_Tq.dv rfl (fl_oks_ok ⟨True.intro, True.intro, True.intro, t2_kc0 hi, True.intro⟩) (by decide +kernel) ?_
  refine fl_Tq.stp (pc' := 53) (lv' := [some (.inr (.inr (.inl (18, 18 + 4 * i)))), some (.inl x), some (.inr (.inr (.inl (3, 3)))), some (.inr (.inr (.inl (4, 4)))), some (.inl (t2_heldTo_v (((f (18 + 4 * i) 2) + x) - (f 4 27)) (0 : Int32) ((f (18 + 4 * i) 0) * (3600 : Int32)))), some (.inl (x / (1000 : Int32)))]) (st' := [.inl ((f (18 + 4 * i) 6) + ((((x / (1000 : Int32)) * (x / (1000 : Int32))) * (f (18 + 4 * i) 5)) / (500 : Int32))), .inr (.inr (.inl (18, 18 + 4 * i)))]) (m' := (f, l)) rfl rfl (fl_oks_ok ⟨True.intro, True.intro, t2_kc0 hi, True.intro⟩) rfl ?_
  refine fl_Tq.pfV (k := 6) (m' := (fl_row f (18 + 4 * i) (upd (f (18 + 4 * i)) 6 ((f (18 + 4 * i) 6) + ((((x / (1000 : Int32)) * (x / (1000 : Int32))) * (f (18 + 4 * i) 5)) / (500 : Int32)))), l)) rfl (fl_oks_ok ⟨True.intro, t2_kc0 hi, True.intro⟩) rfl (t2_upn rfl) ?_
  refine fl_Tq.stp (pc' := 57) (lv' := [some (.inr (.inr (.inl (18, 18 + 4 * i)))), some (.inl x), some (.inr (.inr (.inl (3, 3)))), some (.inr (.inr (.inl (4, 4)))), some (.inl (t2_heldTo_v (((f (18 + 4 * i) 2) + x) - (f 4 27)) (0 : Int32) ((f (18 + 4 * i) 0) * (3600 : Int32)))), some (.inl (x / (1000 : Int32)))]) (st' := [.inr (.inr (.inl (18, 18 + 4 * i)))]) (m' := (fl_row f (18 + 4 * i) (upd (f (18 + 4 * i)) 6 ((f (18 + 4 * i) 6) + ((((x / (1000 : Int32)) * (x / (1000 : Int32))) * (f (18 + 4 * i) 5)) / (500 : Int32)))), l)) rfl rfl (fl_bo rfl) rfl ?_
  refine fl_Tq.stp (pc' := 58) (lv' := [some (.inr (.inr (.inl (18, 18 + 4 * i)))), some (.inl x), some (.inr (.inr (.inl (3, 3)))), some (.inr (.inr (.inl (4, 4)))), some (.inl (t2_heldTo_v (((f (18 + 4 * i) 2) + x) - (f 4 27)) (0 : Int32) ((f (18 + 4 * i) 0) * (3600 : Int32)))), some (.inl (x / (1000 : Int32)))]) (st' := [.inr (.inr (.inl (18, 18 + 4 * i))), .inr (.inr (.inl (18, 18 + 4 * i)))]) (m' := (fl_row f (18 + 4 * i) (upd (f (18 + 4 * i)) 6 ((f (18 + 4 * i) 6) + ((((x / (1000 : Int32)) * (x / (1000 : Int32))) * (f (18 + 4 * i) 5)) / (500 : Int32)))), l)) rfl rfl (fl_oks_ok ⟨t2_kc0 hi, True.intro⟩) rfl ?_
  refine fl_Tq.gfV (k := 6) (v := (f (18 + 4 * i) 6) + ((((x / (1000 : Int32)) * (x / (1000 : Int32))) * (f (18 + 4 * i) 5)) / (500 : Int32))) rfl (fl_oks_ok ⟨t2_kc0 hi, t2_kc0 hi, True.intro⟩) rfl (by simp only [fl_row_self, upd_self]) ?_
  refine fl_Tq.stp (pc' := 62) (lv' := [some (.inr (.inr (.inl (18, 18 + 4 * i)))), some (.inl x), some (.inr (.inr (.inl (3, 3)))), some (.inr (.inr (.inl (4, 4)))), some (.inl (t2_heldTo_v (((f (18 + 4 * i) 2) + x) - (f 4 27)) (0 : Int32) ((f (18 + 4 * i) 0) * (3600 : Int32)))), some (.inl (x / (1000 : Int32)))]) (st' := [.inr (.inr (.inl (4, 4))), .inl ((f (18 + 4 * i) 6) + ((((x / (1000 : Int32)) * (x / (1000 : Int32))) * (f (18 + 4 * i) 5)) / (500 : Int32))), .inr (.inr (.inl (18, 18 + 4 * i)))]) (m' := (fl_row f (18 + 4 * i) (upd (f (18 + 4 * i)) 6 ((f (18 + 4 * i) 6) + ((((x / (1000 : Int32)) * (x / (1000 : Int32))) * (f (18 + 4 * i) 5)) / (500 : Int32)))), l)) rfl rfl (fl_oks_ok ⟨True.intro, t2_kc0 hi, True.intro⟩) rfl ?_
  refine fl_Tq.cB (c := (6 : Int32)) rfl (by decide +kernel) (fl_oks_ok ⟨fl_okp (by decide +kernel) (by decide), True.intro, t2_kc0 hi, True.intro⟩) ?_
  refine fl_Tq.ldV (p := 4) (τ := 4) (n := 30) (z := (0, 0, 0)) (k := 6) (v := f 4 6) rfl (fl_oks_ok ⟨True.intro, fl_okp (by decide +kernel) (by decide), True.intro, t2_kc0 hi, True.intro⟩) rfl (by decide +kernel) (by decide) (by simp only [fl_row_ne (show 4 ≠ 18 + 4 * i by omega)]) ?_
  refine fl_Tq.stp (pc' := 66) (lv' := [some (.inr (.inr (.inl (18, 18 + 4 * i)))), some (.inl x), some (.inr (.inr (.inl (3, 3)))), some (.inr (.inr (.inl (4, 4)))), some (.inl (t2_heldTo_v (((f (18 + 4 * i) 2) + x) - (f 4 27)) (0 : Int32) ((f (18 + 4 * i) 0) * (3600 : Int32)))), some (.inl (x / (1000 : Int32)))]) (st' := [.inr (.inr (.inl (18, 18 + 4 * i))), .inl (f 4 6), .inl ((f (18 + 4 * i) 6) + ((((x / (1000 : Int32)) * (x / (1000 : Int32))) * (f (18 + 4 * i) 5)) / (500 : Int32))), .inr (.inr (.inl (18, 18 + 4 * i)))]) (m' := (fl_row f (18 + 4 * i) (upd (f (18 + 4 * i)) 6 ((f (18 + 4 * i) 6) + ((((x / (1000 : Int32)) * (x / (1000 : Int32))) * (f (18 + 4 * i) 5)) / (500 : Int32)))), l)) rfl rfl (fl_oks_ok ⟨True.intro, True.intro, t2_kc0 hi, True.intro⟩) rfl ?_
  refine fl_Tq.gfV (k := 6) (v := (f (18 + 4 * i) 6) + ((((x / (1000 : Int32)) * (x / (1000 : Int32))) * (f (18 + 4 * i) 5)) / (500 : Int32))) rfl (fl_oks_ok ⟨t2_kc0 hi, True.intro, True.intro, t2_kc0 hi, True.intro⟩) rfl (by simp only [fl_row_self, upd_self]) ?_
  refine fl_Tq.stp (pc' := 70) (lv' := [some (.inr (.inr (.inl (18, 18 + 4 * i)))), some (.inl x), some (.inr (.inr (.inl (3, 3)))), some (.inr (.inr (.inl (4, 4)))), some (.inl (t2_heldTo_v (((f (18 + 4 * i) 2) + x) - (f 4 27)) (0 : Int32) ((f (18 + 4 * i) 0) * (3600 : Int32)))), some (.inl (x / (1000 : Int32)))]) (st' := [.inl ((f 4 6) - ((f (18 + 4 * i) 6) + ((((x / (1000 : Int32)) * (x / (1000 : Int32))) * (f (18 + 4 * i) 5)) / (500 : Int32)))), .inl ((f (18 + 4 * i) 6) + ((((x / (1000 : Int32)) * (x / (1000 : Int32))) * (f (18 + 4 * i) 5)) / (500 : Int32))), .inr (.inr (.inl (18, 18 + 4 * i)))]) (m' := (fl_row f (18 + 4 * i) (upd (f (18 + 4 * i)) 6 ((f (18 + 4 * i) 6) + ((((x / (1000 : Int32)) * (x / (1000 : Int32))) * (f (18 + 4 * i) 5)) / (500 : Int32)))), l)) rfl rfl (fl_oks_ok ⟨True.intro, True.intro, True.intro, t2_kc0 hi, True.intro⟩) rfl ?_
  refine fl_Tq.cB (c := (32 : Int32)) rfl (by decide +kernel) (fl_oks_ok ⟨True.intro, True.intro, t2_kc0 hi, True.intro⟩) ?_
  refine fl_Tq.dv rfl (fl_oks_ok ⟨True.intro, True.intro, True.intro, t2_kc0 hi, True.intro⟩) (by decide +kernel) ?_
  refine fl_Tq.stp (pc' := 74) (lv' := [some (.inr (.inr (.inl (18, 18 + 4 * i)))), some (.inl x), some (.inr (.inr (.inl (3, 3)))), some (.inr (.inr (.inl (4, 4)))), some (.inl (t2_heldTo_v (((f (18 + 4 * i) 2) + x) - (f 4 27)) (0 : Int32) ((f (18 + 4 * i) 0) * (3600 : Int32)))), some (.inl (x / (1000 : Int32)))]) (st' := [.inl (((f (18 + 4 * i) 6) + ((((x / (1000 : Int32)) * (x / (1000 : Int32))) * (f (18 + 4 * i) 5)) / (500 : Int32))) + (((f 4 6) - ((f (18 + 4 * i) 6) + ((((x / (1000 : Int32)) * (x / (1000 : Int32))) * (f (18 + 4 * i) 5)) / (500 : Int32)))) / (32 : Int32))), .inr (.inr (.inl (18, 18 + 4 * i)))]) (m' := (fl_row f (18 + 4 * i) (upd (f (18 + 4 * i)) 6 ((f (18 + 4 * i) 6) + ((((x / (1000 : Int32)) * (x / (1000 : Int32))) * (f (18 + 4 * i) 5)) / (500 : Int32)))), l)) rfl rfl (fl_oks_ok ⟨True.intro, True.intro, t2_kc0 hi, True.intro⟩) rfl ?_
  refine fl_Tq.pfV (k := 6) (m' := (fl_row f (18 + 4 * i) (upd (f (18 + 4 * i)) 6 (((f (18 + 4 * i) 6) + ((((x / (1000 : Int32)) * (x / (1000 : Int32))) * (f (18 + 4 * i) 5)) / (500 : Int32))) + (((f 4 6) - ((f (18 + 4 * i) 6) + ((((x / (1000 : Int32)) * (x / (1000 : Int32))) * (f (18 + 4 * i) 5)) / (500 : Int32)))) / (32 : Int32)))), l)) rfl (fl_oks_ok ⟨True.intro, t2_kc0 hi, True.intro⟩) rfl (t2_upo) ?_
  refine fl_Tq.stp (pc' := 78) (lv' := [some (.inr (.inr (.inl (18, 18 + 4 * i)))), some (.inl x), some (.inr (.inr (.inl (3, 3)))), some (.inr (.inr (.inl (4, 4)))), some (.inl (t2_heldTo_v (((f (18 + 4 * i) 2) + x) - (f 4 27)) (0 : Int32) ((f (18 + 4 * i) 0) * (3600 : Int32)))), some (.inl (x / (1000 : Int32)))]) (st' := [.inr (.inr (.inl (18, 18 + 4 * i)))]) (m' := (fl_row f (18 + 4 * i) (upd (f (18 + 4 * i)) 6 (((f (18 + 4 * i) 6) + ((((x / (1000 : Int32)) * (x / (1000 : Int32))) * (f (18 + 4 * i) 5)) / (500 : Int32))) + (((f 4 6) - ((f (18 + 4 * i) 6) + ((((x / (1000 : Int32)) * (x / (1000 : Int32))) * (f (18 + 4 * i) 5)) / (500 : Int32)))) / (32 : Int32)))), l)) rfl rfl (fl_bo rfl) rfl ?_
  refine fl_Tq.stp (pc' := 79) (lv' := [some (.inr (.inr (.inl (18, 18 + 4 * i)))), some (.inl x), some (.inr (.inr (.inl (3, 3)))), some (.inr (.inr (.inl (4, 4)))), some (.inl (t2_heldTo_v (((f (18 + 4 * i) 2) + x) - (f 4 27)) (0 : Int32) ((f (18 + 4 * i) 0) * (3600 : Int32)))), some (.inl (x / (1000 : Int32)))]) (st' := [.inr (.inr (.inl (18, 18 + 4 * i))), .inr (.inr (.inl (18, 18 + 4 * i)))]) (m' := (fl_row f (18 + 4 * i) (upd (f (18 + 4 * i)) 6 (((f (18 + 4 * i) 6) + ((((x / (1000 : Int32)) * (x / (1000 : Int32))) * (f (18 + 4 * i) 5)) / (500 : Int32))) + (((f 4 6) - ((f (18 + 4 * i) 6) + ((((x / (1000 : Int32)) * (x / (1000 : Int32))) * (f (18 + 4 * i) 5)) / (500 : Int32)))) / (32 : Int32)))), l)) rfl rfl (fl_oks_ok ⟨t2_kc0 hi, True.intro⟩) rfl ?_
  refine fl_Tq.gfV (k := 7) (v := f (18 + 4 * i) 7) rfl (fl_oks_ok ⟨t2_kc0 hi, t2_kc0 hi, True.intro⟩) rfl (by simp only [fl_row_self, upd_ne (by decide : 7 ≠ 6)]) ?_
  refine fl_Tq.stp (pc' := 83) (lv' := [some (.inr (.inr (.inl (18, 18 + 4 * i)))), some (.inl x), some (.inr (.inr (.inl (3, 3)))), some (.inr (.inr (.inl (4, 4)))), some (.inl (t2_heldTo_v (((f (18 + 4 * i) 2) + x) - (f 4 27)) (0 : Int32) ((f (18 + 4 * i) 0) * (3600 : Int32)))), some (.inl (x / (1000 : Int32)))]) (st' := [.inl x, .inl (f (18 + 4 * i) 7), .inr (.inr (.inl (18, 18 + 4 * i)))]) (m' := (fl_row f (18 + 4 * i) (upd (f (18 + 4 * i)) 6 (((f (18 + 4 * i) 6) + ((((x / (1000 : Int32)) * (x / (1000 : Int32))) * (f (18 + 4 * i) 5)) / (500 : Int32))) + (((f 4 6) - ((f (18 + 4 * i) 6) + ((((x / (1000 : Int32)) * (x / (1000 : Int32))) * (f (18 + 4 * i) 5)) / (500 : Int32)))) / (32 : Int32)))), l)) rfl rfl (fl_oks_ok ⟨True.intro, t2_kc0 hi, True.intro⟩) rfl ?_
  refine fl_Tq.stp (pc' := 84) (lv' := [some (.inr (.inr (.inl (18, 18 + 4 * i)))), some (.inl x), some (.inr (.inr (.inl (3, 3)))), some (.inr (.inr (.inl (4, 4)))), some (.inl (t2_heldTo_v (((f (18 + 4 * i) 2) + x) - (f 4 27)) (0 : Int32) ((f (18 + 4 * i) 0) * (3600 : Int32)))), some (.inl (x / (1000 : Int32)))]) (st' := [.inr (.inr (.inl (4, 4))), .inl x, .inl (f (18 + 4 * i) 7), .inr (.inr (.inl (18, 18 + 4 * i)))]) (m' := (fl_row f (18 + 4 * i) (upd (f (18 + 4 * i)) 6 (((f (18 + 4 * i) 6) + ((((x / (1000 : Int32)) * (x / (1000 : Int32))) * (f (18 + 4 * i) 5)) / (500 : Int32))) + (((f 4 6) - ((f (18 + 4 * i) 6) + ((((x / (1000 : Int32)) * (x / (1000 : Int32))) * (f (18 + 4 * i) 5)) / (500 : Int32)))) / (32 : Int32)))), l)) rfl rfl (fl_oks_ok ⟨True.intro, True.intro, t2_kc0 hi, True.intro⟩) rfl ?_
  refine fl_Tq.cB (c := (25 : Int32)) rfl (by decide +kernel) (fl_oks_ok ⟨fl_okp (by decide +kernel) (by decide), True.intro, True.intro, t2_kc0 hi, True.intro⟩) ?_
  refine fl_Tq.ldV (p := 4) (τ := 4) (n := 30) (z := (0, 0, 0)) (k := 25) (v := f 4 25) rfl (fl_oks_ok ⟨True.intro, fl_okp (by decide +kernel) (by decide), True.intro, True.intro, t2_kc0 hi, True.intro⟩) rfl (by decide +kernel) (by decide) (by simp only [fl_row_ne (show 4 ≠ 18 + 4 * i by omega)]) ?_
  refine fl_Tq.stp (pc' := 88) (lv' := [some (.inr (.inr (.inl (18, 18 + 4 * i)))), some (.inl x), some (.inr (.inr (.inl (3, 3)))), some (.inr (.inr (.inl (4, 4)))), some (.inl (t2_heldTo_v (((f (18 + 4 * i) 2) + x) - (f 4 27)) (0 : Int32) ((f (18 + 4 * i) 0) * (3600 : Int32)))), some (.inl (x / (1000 : Int32)))]) (st' := [.inl (x * (f 4 25)), .inl (f (18 + 4 * i) 7), .inr (.inr (.inl (18, 18 + 4 * i)))]) (m' := (fl_row f (18 + 4 * i) (upd (f (18 + 4 * i)) 6 (((f (18 + 4 * i) 6) + ((((x / (1000 : Int32)) * (x / (1000 : Int32))) * (f (18 + 4 * i) 5)) / (500 : Int32))) + (((f 4 6) - ((f (18 + 4 * i) 6) + ((((x / (1000 : Int32)) * (x / (1000 : Int32))) * (f (18 + 4 * i) 5)) / (500 : Int32)))) / (32 : Int32)))), l)) rfl rfl (fl_oks_ok ⟨True.intro, True.intro, True.intro, t2_kc0 hi, True.intro⟩) rfl ?_
  refine fl_Tq.cS (c := (1000 : Int32)) rfl (by decide +kernel) (fl_oks_ok ⟨True.intro, True.intro, t2_kc0 hi, True.intro⟩) ?_
  refine fl_Tq.dv rfl (fl_oks_ok ⟨True.intro, True.intro, True.intro, t2_kc0 hi, True.intro⟩) (by decide +kernel) ?_
  refine fl_Tq.stp (pc' := 93) (lv' := [some (.inr (.inr (.inl (18, 18 + 4 * i)))), some (.inl x), some (.inr (.inr (.inl (3, 3)))), some (.inr (.inr (.inl (4, 4)))), some (.inl (t2_heldTo_v (((f (18 + 4 * i) 2) + x) - (f 4 27)) (0 : Int32) ((f (18 + 4 * i) 0) * (3600 : Int32)))), some (.inl (x / (1000 : Int32)))]) (st' := [.inr (.inr (.inl (18, 18 + 4 * i))), .inl ((x * (f 4 25)) / (1000 : Int32)), .inl (f (18 + 4 * i) 7), .inr (.inr (.inl (18, 18 + 4 * i)))]) (m' := (fl_row f (18 + 4 * i) (upd (f (18 + 4 * i)) 6 (((f (18 + 4 * i) 6) + ((((x / (1000 : Int32)) * (x / (1000 : Int32))) * (f (18 + 4 * i) 5)) / (500 : Int32))) + (((f 4 6) - ((f (18 + 4 * i) 6) + ((((x / (1000 : Int32)) * (x / (1000 : Int32))) * (f (18 + 4 * i) 5)) / (500 : Int32)))) / (32 : Int32)))), l)) rfl rfl (fl_oks_ok ⟨True.intro, True.intro, t2_kc0 hi, True.intro⟩) rfl ?_
  refine fl_Tq.gfV (k := 7) (v := f (18 + 4 * i) 7) rfl (fl_oks_ok ⟨t2_kc0 hi, True.intro, True.intro, t2_kc0 hi, True.intro⟩) rfl (by simp only [fl_row_self, upd_ne (by decide : 7 ≠ 6)]) ?_
  refine fl_Tq.stp (pc' := 97) (lv' := [some (.inr (.inr (.inl (18, 18 + 4 * i)))), some (.inl x), some (.inr (.inr (.inl (3, 3)))), some (.inr (.inr (.inl (4, 4)))), some (.inl (t2_heldTo_v (((f (18 + 4 * i) 2) + x) - (f 4 27)) (0 : Int32) ((f (18 + 4 * i) 0) * (3600 : Int32)))), some (.inl (x / (1000 : Int32)))]) (st' := [.inl (((x * (f 4 25)) / (1000 : Int32)) - (f (18 + 4 * i) 7)), .inl (f (18 + 4 * i) 7), .inr (.inr (.inl (18, 18 + 4 * i)))]) (m' := (fl_row f (18 + 4 * i) (upd (f (18 + 4 * i)) 6 (((f (18 + 4 * i) 6) + ((((x / (1000 : Int32)) * (x / (1000 : Int32))) * (f (18 + 4 * i) 5)) / (500 : Int32))) + (((f 4 6) - ((f (18 + 4 * i) 6) + ((((x / (1000 : Int32)) * (x / (1000 : Int32))) * (f (18 + 4 * i) 5)) / (500 : Int32)))) / (32 : Int32)))), l)) rfl rfl (fl_oks_ok ⟨True.intro, True.intro, True.intro, t2_kc0 hi, True.intro⟩) rfl ?_
  refine fl_Tq.cB (c := (8 : Int32)) rfl (by decide +kernel) (fl_oks_ok ⟨True.intro, True.intro, t2_kc0 hi, True.intro⟩) ?_
  refine fl_Tq.dv rfl (fl_oks_ok ⟨True.intro, True.intro, True.intro, t2_kc0 hi, True.intro⟩) (by decide +kernel) ?_
  refine fl_Tq.stp (pc' := 101) (lv' := [some (.inr (.inr (.inl (18, 18 + 4 * i)))), some (.inl x), some (.inr (.inr (.inl (3, 3)))), some (.inr (.inr (.inl (4, 4)))), some (.inl (t2_heldTo_v (((f (18 + 4 * i) 2) + x) - (f 4 27)) (0 : Int32) ((f (18 + 4 * i) 0) * (3600 : Int32)))), some (.inl (x / (1000 : Int32)))]) (st' := [.inl ((f (18 + 4 * i) 7) + ((((x * (f 4 25)) / (1000 : Int32)) - (f (18 + 4 * i) 7)) / (8 : Int32))), .inr (.inr (.inl (18, 18 + 4 * i)))]) (m' := (fl_row f (18 + 4 * i) (upd (f (18 + 4 * i)) 6 (((f (18 + 4 * i) 6) + ((((x / (1000 : Int32)) * (x / (1000 : Int32))) * (f (18 + 4 * i) 5)) / (500 : Int32))) + (((f 4 6) - ((f (18 + 4 * i) 6) + ((((x / (1000 : Int32)) * (x / (1000 : Int32))) * (f (18 + 4 * i) 5)) / (500 : Int32)))) / (32 : Int32)))), l)) rfl rfl (fl_oks_ok ⟨True.intro, True.intro, t2_kc0 hi, True.intro⟩) rfl ?_
  refine fl_Tq.pfV (k := 7) (m' := (fl_row f (18 + 4 * i) (upd (upd (f (18 + 4 * i)) 6 (((f (18 + 4 * i) 6) + ((((x / (1000 : Int32)) * (x / (1000 : Int32))) * (f (18 + 4 * i) 5)) / (500 : Int32))) + (((f 4 6) - ((f (18 + 4 * i) 6) + ((((x / (1000 : Int32)) * (x / (1000 : Int32))) * (f (18 + 4 * i) 5)) / (500 : Int32)))) / (32 : Int32)))) 7 ((f (18 + 4 * i) 7) + ((((x * (f 4 25)) / (1000 : Int32)) - (f (18 + 4 * i) 7)) / (8 : Int32)))), l)) rfl (fl_oks_ok ⟨True.intro, t2_kc0 hi, True.intro⟩) rfl (t2_upr) ?_
  refine fl_Tq.stp (pc' := 105) (lv' := [some (.inr (.inr (.inl (18, 18 + 4 * i)))), some (.inl x), some (.inr (.inr (.inl (3, 3)))), some (.inr (.inr (.inl (4, 4)))), some (.inl (t2_heldTo_v (((f (18 + 4 * i) 2) + x) - (f 4 27)) (0 : Int32) ((f (18 + 4 * i) 0) * (3600 : Int32)))), some (.inl (x / (1000 : Int32)))]) (st' := [.inr (.inr (.inl (18, 18 + 4 * i)))]) (m' := (fl_row f (18 + 4 * i) (upd (upd (f (18 + 4 * i)) 6 (((f (18 + 4 * i) 6) + ((((x / (1000 : Int32)) * (x / (1000 : Int32))) * (f (18 + 4 * i) 5)) / (500 : Int32))) + (((f 4 6) - ((f (18 + 4 * i) 6) + ((((x / (1000 : Int32)) * (x / (1000 : Int32))) * (f (18 + 4 * i) 5)) / (500 : Int32)))) / (32 : Int32)))) 7 ((f (18 + 4 * i) 7) + ((((x * (f 4 25)) / (1000 : Int32)) - (f (18 + 4 * i) 7)) / (8 : Int32)))), l)) rfl rfl (fl_bo rfl) rfl ?_
  refine fl_Tq.stp (pc' := 106) (lv' := [some (.inr (.inr (.inl (18, 18 + 4 * i)))), some (.inl x), some (.inr (.inr (.inl (3, 3)))), some (.inr (.inr (.inl (4, 4)))), some (.inl (t2_heldTo_v (((f (18 + 4 * i) 2) + x) - (f 4 27)) (0 : Int32) ((f (18 + 4 * i) 0) * (3600 : Int32)))), some (.inl (x / (1000 : Int32)))]) (st' := [.inr (.inr (.inl (18, 18 + 4 * i))), .inr (.inr (.inl (18, 18 + 4 * i)))]) (m' := (fl_row f (18 + 4 * i) (upd (upd (f (18 + 4 * i)) 6 (((f (18 + 4 * i) 6) + ((((x / (1000 : Int32)) * (x / (1000 : Int32))) * (f (18 + 4 * i) 5)) / (500 : Int32))) + (((f 4 6) - ((f (18 + 4 * i) 6) + ((((x / (1000 : Int32)) * (x / (1000 : Int32))) * (f (18 + 4 * i) 5)) / (500 : Int32)))) / (32 : Int32)))) 7 ((f (18 + 4 * i) 7) + ((((x * (f 4 25)) / (1000 : Int32)) - (f (18 + 4 * i) 7)) / (8 : Int32)))), l)) rfl rfl (fl_oks_ok ⟨t2_kc0 hi, True.intro⟩) rfl ?_
  refine fl_Tq.gfV (k := 9) (v := f (18 + 4 * i) 9) rfl (fl_oks_ok ⟨t2_kc0 hi, t2_kc0 hi, True.intro⟩) rfl (by simp only [fl_row_self, upd_ne (by decide : 9 ≠ 7), upd_ne (by decide : 9 ≠ 6)]) ?_
  refine fl_Tq.stp (pc' := 110) (lv' := [some (.inr (.inr (.inl (18, 18 + 4 * i)))), some (.inl x), some (.inr (.inr (.inl (3, 3)))), some (.inr (.inr (.inl (4, 4)))), some (.inl (t2_heldTo_v (((f (18 + 4 * i) 2) + x) - (f 4 27)) (0 : Int32) ((f (18 + 4 * i) 0) * (3600 : Int32)))), some (.inl (x / (1000 : Int32)))]) (st' := [.inl x, .inl (f (18 + 4 * i) 9), .inr (.inr (.inl (18, 18 + 4 * i)))]) (m' := (fl_row f (18 + 4 * i) (upd (upd (f (18 + 4 * i)) 6 (((f (18 + 4 * i) 6) + ((((x / (1000 : Int32)) * (x / (1000 : Int32))) * (f (18 + 4 * i) 5)) / (500 : Int32))) + (((f 4 6) - ((f (18 + 4 * i) 6) + ((((x / (1000 : Int32)) * (x / (1000 : Int32))) * (f (18 + 4 * i) 5)) / (500 : Int32)))) / (32 : Int32)))) 7 ((f (18 + 4 * i) 7) + ((((x * (f 4 25)) / (1000 : Int32)) - (f (18 + 4 * i) 7)) / (8 : Int32)))), l)) rfl rfl (fl_oks_ok ⟨True.intro, t2_kc0 hi, True.intro⟩) rfl ?_
  refine fl_Tq.cal rfl rfl (fl_oks_ok ⟨True.intro, True.intro, t2_kc0 hi, True.intro⟩) rfl ?_
  refine t2_abs_q  ?_
  show fl_Tq _ 10 113 [some (.inr (.inr (.inl (18, 18 + 4 * i)))), some (.inl x), some (.inr (.inr (.inl (3, 3)))), some (.inr (.inr (.inl (4, 4)))), some (.inl (t2_heldTo_v (((f (18 + 4 * i) 2) + x) - (f 4 27)) (0 : Int32) ((f (18 + 4 * i) 0) * (3600 : Int32)))), some (.inl (x / (1000 : Int32)))] [.inl (t2_abs_v x), .inl (f (18 + 4 * i) 9), .inr (.inr (.inl (18, 18 + 4 * i)))] (fl_row f (18 + 4 * i) (upd (upd (f (18 + 4 * i)) 6 (((f (18 + 4 * i) 6) + ((((x / (1000 : Int32)) * (x / (1000 : Int32))) * (f (18 + 4 * i) 5)) / (500 : Int32))) + (((f 4 6) - ((f (18 + 4 * i) 6) + ((((x / (1000 : Int32)) * (x / (1000 : Int32))) * (f (18 + 4 * i) 5)) / (500 : Int32)))) / (32 : Int32)))) 7 ((f (18 + 4 * i) 7) + ((((x * (f 4 25)) / (1000 : Int32)) - (f (18 + 4 * i) 7)) / (8 : Int32)))), l) _
  refine fl_Tq.stp (pc' := 114) (lv' := [some (.inr (.inr (.inl (18, 18 + 4 * i)))), some (.inl x), some (.inr (.inr (.inl (3, 3)))), some (.inr (.inr (.inl (4, 4)))), some (.inl (t2_heldTo_v (((f (18 + 4 * i) 2) + x) - (f 4 27)) (0 : Int32) ((f (18 + 4 * i) 0) * (3600 : Int32)))), some (.inl (x / (1000 : Int32)))]) (st' := [.inl ((f (18 + 4 * i) 9) + (t2_abs_v x)), .inr (.inr (.inl (18, 18 + 4 * i)))]) (m' := (fl_row f (18 + 4 * i) (upd (upd (f (18 + 4 * i)) 6 (((f (18 + 4 * i) 6) + ((((x / (1000 : Int32)) * (x / (1000 : Int32))) * (f (18 + 4 * i) 5)) / (500 : Int32))) + (((f 4 6) - ((f (18 + 4 * i) 6) + ((((x / (1000 : Int32)) * (x / (1000 : Int32))) * (f (18 + 4 * i) 5)) / (500 : Int32)))) / (32 : Int32)))) 7 ((f (18 + 4 * i) 7) + ((((x * (f 4 25)) / (1000 : Int32)) - (f (18 + 4 * i) 7)) / (8 : Int32)))), l)) rfl rfl (fl_oks_ok ⟨True.intro, True.intro, t2_kc0 hi, True.intro⟩) rfl ?_
  refine fl_Tq.pfV (k := 9) (m' := (fl_row f (18 + 4 * i) (upd (upd (upd (f (18 + 4 * i)) 6 (((f (18 + 4 * i) 6) + ((((x / (1000 : Int32)) * (x / (1000 : Int32))) * (f (18 + 4 * i) 5)) / (500 : Int32))) + (((f 4 6) - ((f (18 + 4 * i) 6) + ((((x / (1000 : Int32)) * (x / (1000 : Int32))) * (f (18 + 4 * i) 5)) / (500 : Int32)))) / (32 : Int32)))) 7 ((f (18 + 4 * i) 7) + ((((x * (f 4 25)) / (1000 : Int32)) - (f (18 + 4 * i) 7)) / (8 : Int32)))) 9 ((f (18 + 4 * i) 9) + (t2_abs_v x))), l)) rfl (fl_oks_ok ⟨True.intro, t2_kc0 hi, True.intro⟩) rfl (t2_upr) ?_
  refine fl_Tq.stp (pc' := 118) (lv' := [some (.inr (.inr (.inl (18, 18 + 4 * i)))), some (.inl x), some (.inr (.inr (.inl (3, 3)))), some (.inr (.inr (.inl (4, 4)))), some (.inl (t2_heldTo_v (((f (18 + 4 * i) 2) + x) - (f 4 27)) (0 : Int32) ((f (18 + 4 * i) 0) * (3600 : Int32)))), some (.inl (x / (1000 : Int32)))]) (st' := [.inr (.inr (.inl (18, 18 + 4 * i)))]) (m' := (fl_row f (18 + 4 * i) (upd (upd (upd (f (18 + 4 * i)) 6 (((f (18 + 4 * i) 6) + ((((x / (1000 : Int32)) * (x / (1000 : Int32))) * (f (18 + 4 * i) 5)) / (500 : Int32))) + (((f 4 6) - ((f (18 + 4 * i) 6) + ((((x / (1000 : Int32)) * (x / (1000 : Int32))) * (f (18 + 4 * i) 5)) / (500 : Int32)))) / (32 : Int32)))) 7 ((f (18 + 4 * i) 7) + ((((x * (f 4 25)) / (1000 : Int32)) - (f (18 + 4 * i) 7)) / (8 : Int32)))) 9 ((f (18 + 4 * i) 9) + (t2_abs_v x))), l)) rfl rfl (fl_bo rfl) rfl ?_
  refine fl_Tq.stp (pc' := 119) (lv' := [some (.inr (.inr (.inl (18, 18 + 4 * i)))), some (.inl x), some (.inr (.inr (.inl (3, 3)))), some (.inr (.inr (.inl (4, 4)))), some (.inl (t2_heldTo_v (((f (18 + 4 * i) 2) + x) - (f 4 27)) (0 : Int32) ((f (18 + 4 * i) 0) * (3600 : Int32)))), some (.inl (x / (1000 : Int32)))]) (st' := [.inr (.inr (.inl (4, 4))), .inr (.inr (.inl (18, 18 + 4 * i)))]) (m' := (fl_row f (18 + 4 * i) (upd (upd (upd (f (18 + 4 * i)) 6 (((f (18 + 4 * i) 6) + ((((x / (1000 : Int32)) * (x / (1000 : Int32))) * (f (18 + 4 * i) 5)) / (500 : Int32))) + (((f 4 6) - ((f (18 + 4 * i) 6) + ((((x / (1000 : Int32)) * (x / (1000 : Int32))) * (f (18 + 4 * i) 5)) / (500 : Int32)))) / (32 : Int32)))) 7 ((f (18 + 4 * i) 7) + ((((x * (f 4 25)) / (1000 : Int32)) - (f (18 + 4 * i) 7)) / (8 : Int32)))) 9 ((f (18 + 4 * i) 9) + (t2_abs_v x))), l)) rfl rfl (fl_oks_ok ⟨t2_kc0 hi, True.intro⟩) rfl ?_
  refine fl_Tq.cB (c := (24 : Int32)) rfl (by decide +kernel) (fl_oks_ok ⟨fl_okp (by decide +kernel) (by decide), t2_kc0 hi, True.intro⟩) ?_
  refine fl_Tq.ldV (p := 4) (τ := 4) (n := 30) (z := (0, 0, 0)) (k := 24) (v := f 4 24) rfl (fl_oks_ok ⟨True.intro, fl_okp (by decide +kernel) (by decide), t2_kc0 hi, True.intro⟩) rfl (by decide +kernel) (by decide) (by simp only [fl_row_ne (show 4 ≠ 18 + 4 * i by omega)]) ?_
  refine fl_Tq.cal rfl rfl (fl_oks_ok ⟨True.intro, t2_kc0 hi, True.intro⟩) rfl ?_
  refine c0_wear_q hi ?_
  show fl_Tq _ 10 125 [some (.inr (.inr (.inl (18, 18 + 4 * i)))), some (.inl x), some (.inr (.inr (.inl (3, 3)))), some (.inr (.inr (.inl (4, 4)))), some (.inl (t2_heldTo_v (((f (18 + 4 * i) 2) + x) - (f 4 27)) (0 : Int32) ((f (18 + 4 * i) 0) * (3600 : Int32)))), some (.inl (x / (1000 : Int32)))] [] (c0_wear_m (fl_row f (18 + 4 * i) (upd (upd (upd (f (18 + 4 * i)) 6 (((f (18 + 4 * i) 6) + ((((x / (1000 : Int32)) * (x / (1000 : Int32))) * (f (18 + 4 * i) 5)) / (500 : Int32))) + (((f 4 6) - ((f (18 + 4 * i) 6) + ((((x / (1000 : Int32)) * (x / (1000 : Int32))) * (f (18 + 4 * i) 5)) / (500 : Int32)))) / (32 : Int32)))) 7 ((f (18 + 4 * i) 7) + ((((x * (f 4 25)) / (1000 : Int32)) - (f (18 + 4 * i) 7)) / (8 : Int32)))) 9 ((f (18 + 4 * i) 9) + (t2_abs_v x)))) i (f 4 24), l) _
  refine fl_Tq.stp (pc' := 126) (lv' := [some (.inr (.inr (.inl (18, 18 + 4 * i)))), some (.inl x), some (.inr (.inr (.inl (3, 3)))), some (.inr (.inr (.inl (4, 4)))), some (.inl (t2_heldTo_v (((f (18 + 4 * i) 2) + x) - (f 4 27)) (0 : Int32) ((f (18 + 4 * i) 0) * (3600 : Int32)))), some (.inl (x / (1000 : Int32)))]) (st' := [.inr (.inr (.inl (18, 18 + 4 * i)))]) (m' := (c0_wear_m (fl_row f (18 + 4 * i) (upd (upd (upd (f (18 + 4 * i)) 6 (((f (18 + 4 * i) 6) + ((((x / (1000 : Int32)) * (x / (1000 : Int32))) * (f (18 + 4 * i) 5)) / (500 : Int32))) + (((f 4 6) - ((f (18 + 4 * i) 6) + ((((x / (1000 : Int32)) * (x / (1000 : Int32))) * (f (18 + 4 * i) 5)) / (500 : Int32)))) / (32 : Int32)))) 7 ((f (18 + 4 * i) 7) + ((((x * (f 4 25)) / (1000 : Int32)) - (f (18 + 4 * i) 7)) / (8 : Int32)))) 9 ((f (18 + 4 * i) 9) + (t2_abs_v x)))) i (f 4 24), l)) rfl rfl (fl_bo rfl) rfl ?_
  refine fl_Tq.stp (pc' := 128) (lv' := [some (.inr (.inr (.inl (18, 18 + 4 * i)))), some (.inl x), some (.inr (.inr (.inl (3, 3)))), some (.inr (.inr (.inl (4, 4)))), some (.inl (t2_heldTo_v (((f (18 + 4 * i) 2) + x) - (f 4 27)) (0 : Int32) ((f (18 + 4 * i) 0) * (3600 : Int32)))), some (.inl (x / (1000 : Int32)))]) (st' := [.inl (t2_heldTo_v (((f (18 + 4 * i) 2) + x) - (f 4 27)) (0 : Int32) ((f (18 + 4 * i) 0) * (3600 : Int32))), .inr (.inr (.inl (18, 18 + 4 * i)))]) (m' := (c0_wear_m (fl_row f (18 + 4 * i) (upd (upd (upd (f (18 + 4 * i)) 6 (((f (18 + 4 * i) 6) + ((((x / (1000 : Int32)) * (x / (1000 : Int32))) * (f (18 + 4 * i) 5)) / (500 : Int32))) + (((f 4 6) - ((f (18 + 4 * i) 6) + ((((x / (1000 : Int32)) * (x / (1000 : Int32))) * (f (18 + 4 * i) 5)) / (500 : Int32)))) / (32 : Int32)))) 7 ((f (18 + 4 * i) 7) + ((((x * (f 4 25)) / (1000 : Int32)) - (f (18 + 4 * i) 7)) / (8 : Int32)))) 9 ((f (18 + 4 * i) 9) + (t2_abs_v x)))) i (f 4 24), l)) rfl rfl (fl_oks_ok ⟨t2_kc0 hi, True.intro⟩) rfl ?_
  refine fl_Tq.cal rfl rfl (fl_oks_ok ⟨True.intro, t2_kc0 hi, True.intro⟩) rfl ?_
  refine c0_putCharge_q hi (c0_wear_cap (by simp only [fl_row_self, upd_ne (by decide : 0 ≠ 9), upd_ne (by decide : 0 ≠ 7), upd_ne (by decide : 0 ≠ 6)]; exact hk)) ?_
  show fl_Tq _ 10 131 [some (.inr (.inr (.inl (18, 18 + 4 * i)))), some (.inl x), some (.inr (.inr (.inl (3, 3)))), some (.inr (.inr (.inl (4, 4)))), some (.inl (t2_heldTo_v (((f (18 + 4 * i) 2) + x) - (f 4 27)) (0 : Int32) ((f (18 + 4 * i) 0) * (3600 : Int32)))), some (.inl (x / (1000 : Int32)))] [] (c0_putCharge_m (c0_wear_m (fl_row f (18 + 4 * i) (upd (upd (upd (f (18 + 4 * i)) 6 (((f (18 + 4 * i) 6) + ((((x / (1000 : Int32)) * (x / (1000 : Int32))) * (f (18 + 4 * i) 5)) / (500 : Int32))) + (((f 4 6) - ((f (18 + 4 * i) 6) + ((((x / (1000 : Int32)) * (x / (1000 : Int32))) * (f (18 + 4 * i) 5)) / (500 : Int32)))) / (32 : Int32)))) 7 ((f (18 + 4 * i) 7) + ((((x * (f 4 25)) / (1000 : Int32)) - (f (18 + 4 * i) 7)) / (8 : Int32)))) 9 ((f (18 + 4 * i) 9) + (t2_abs_v x)))) i (f 4 24)) i (t2_heldTo_v (((f (18 + 4 * i) 2) + x) - (f 4 27)) (0 : Int32) ((f (18 + 4 * i) 0) * (3600 : Int32))), l) _
  refine fl_Tq.stp (pc' := 132) (lv' := [some (.inr (.inr (.inl (18, 18 + 4 * i)))), some (.inl x), some (.inr (.inr (.inl (3, 3)))), some (.inr (.inr (.inl (4, 4)))), some (.inl (t2_heldTo_v (((f (18 + 4 * i) 2) + x) - (f 4 27)) (0 : Int32) ((f (18 + 4 * i) 0) * (3600 : Int32)))), some (.inl (x / (1000 : Int32)))]) (st' := [.inr (.inr (.inl (18, 18 + 4 * i)))]) (m' := (c0_putCharge_m (c0_wear_m (fl_row f (18 + 4 * i) (upd (upd (upd (f (18 + 4 * i)) 6 (((f (18 + 4 * i) 6) + ((((x / (1000 : Int32)) * (x / (1000 : Int32))) * (f (18 + 4 * i) 5)) / (500 : Int32))) + (((f 4 6) - ((f (18 + 4 * i) 6) + ((((x / (1000 : Int32)) * (x / (1000 : Int32))) * (f (18 + 4 * i) 5)) / (500 : Int32)))) / (32 : Int32)))) 7 ((f (18 + 4 * i) 7) + ((((x * (f 4 25)) / (1000 : Int32)) - (f (18 + 4 * i) 7)) / (8 : Int32)))) 9 ((f (18 + 4 * i) 9) + (t2_abs_v x)))) i (f 4 24)) i (t2_heldTo_v (((f (18 + 4 * i) 2) + x) - (f 4 27)) (0 : Int32) ((f (18 + 4 * i) 0) * (3600 : Int32))), l)) rfl rfl (fl_bo rfl) rfl ?_
  refine fl_Tq.stp (pc' := 133) (lv' := [some (.inr (.inr (.inl (18, 18 + 4 * i)))), some (.inl x), some (.inr (.inr (.inl (3, 3)))), some (.inr (.inr (.inl (4, 4)))), some (.inl (t2_heldTo_v (((f (18 + 4 * i) 2) + x) - (f 4 27)) (0 : Int32) ((f (18 + 4 * i) 0) * (3600 : Int32)))), some (.inl (x / (1000 : Int32)))]) (st' := [.inr (.inr (.inl (18, 18 + 4 * i))), .inr (.inr (.inl (18, 18 + 4 * i)))]) (m' := (c0_putCharge_m (c0_wear_m (fl_row f (18 + 4 * i) (upd (upd (upd (f (18 + 4 * i)) 6 (((f (18 + 4 * i) 6) + ((((x / (1000 : Int32)) * (x / (1000 : Int32))) * (f (18 + 4 * i) 5)) / (500 : Int32))) + (((f 4 6) - ((f (18 + 4 * i) 6) + ((((x / (1000 : Int32)) * (x / (1000 : Int32))) * (f (18 + 4 * i) 5)) / (500 : Int32)))) / (32 : Int32)))) 7 ((f (18 + 4 * i) 7) + ((((x * (f 4 25)) / (1000 : Int32)) - (f (18 + 4 * i) 7)) / (8 : Int32)))) 9 ((f (18 + 4 * i) 9) + (t2_abs_v x)))) i (f 4 24)) i (t2_heldTo_v (((f (18 + 4 * i) 2) + x) - (f 4 27)) (0 : Int32) ((f (18 + 4 * i) 0) * (3600 : Int32))), l)) rfl rfl (fl_oks_ok ⟨t2_kc0 hi, True.intro⟩) rfl ?_
  refine fl_Tq.gfV (k := 8) (v := (c0_putCharge_m (c0_wear_m (fl_row f (18 + 4 * i) (upd (upd (upd (f (18 + 4 * i)) 6 (((f (18 + 4 * i) 6) + ((((x / (1000 : Int32)) * (x / (1000 : Int32))) * (f (18 + 4 * i) 5)) / (500 : Int32))) + (((f 4 6) - ((f (18 + 4 * i) 6) + ((((x / (1000 : Int32)) * (x / (1000 : Int32))) * (f (18 + 4 * i) 5)) / (500 : Int32)))) / (32 : Int32)))) 7 ((f (18 + 4 * i) 7) + ((((x * (f 4 25)) / (1000 : Int32)) - (f (18 + 4 * i) 7)) / (8 : Int32)))) 9 ((f (18 + 4 * i) 9) + (t2_abs_v x)))) i (f 4 24)) i (t2_heldTo_v (((f (18 + 4 * i) 2) + x) - (f 4 27)) (0 : Int32) ((f (18 + 4 * i) 0) * (3600 : Int32)))) (18 + 4 * i) 8) rfl (fl_oks_ok ⟨t2_kc0 hi, t2_kc0 hi, True.intro⟩) rfl rfl ?_
  refine fl_Tq.stp (pc' := 137) (lv' := [some (.inr (.inr (.inl (18, 18 + 4 * i)))), some (.inl x), some (.inr (.inr (.inl (3, 3)))), some (.inr (.inr (.inl (4, 4)))), some (.inl (t2_heldTo_v (((f (18 + 4 * i) 2) + x) - (f 4 27)) (0 : Int32) ((f (18 + 4 * i) 0) * (3600 : Int32)))), some (.inl (x / (1000 : Int32)))]) (st' := [.inl x, .inl ((c0_putCharge_m (c0_wear_m (fl_row f (18 + 4 * i) (upd (upd (upd (f (18 + 4 * i)) 6 (((f (18 + 4 * i) 6) + ((((x / (1000 : Int32)) * (x / (1000 : Int32))) * (f (18 + 4 * i) 5)) / (500 : Int32))) + (((f 4 6) - ((f (18 + 4 * i) 6) + ((((x / (1000 : Int32)) * (x / (1000 : Int32))) * (f (18 + 4 * i) 5)) / (500 : Int32)))) / (32 : Int32)))) 7 ((f (18 + 4 * i) 7) + ((((x * (f 4 25)) / (1000 : Int32)) - (f (18 + 4 * i) 7)) / (8 : Int32)))) 9 ((f (18 + 4 * i) 9) + (t2_abs_v x)))) i (f 4 24)) i (t2_heldTo_v (((f (18 + 4 * i) 2) + x) - (f 4 27)) (0 : Int32) ((f (18 + 4 * i) 0) * (3600 : Int32)))) (18 + 4 * i) 8), .inr (.inr (.inl (18, 18 + 4 * i)))]) (m' := (c0_putCharge_m (c0_wear_m (fl_row f (18 + 4 * i) (upd (upd (upd (f (18 + 4 * i)) 6 (((f (18 + 4 * i) 6) + ((((x / (1000 : Int32)) * (x / (1000 : Int32))) * (f (18 + 4 * i) 5)) / (500 : Int32))) + (((f 4 6) - ((f (18 + 4 * i) 6) + ((((x / (1000 : Int32)) * (x / (1000 : Int32))) * (f (18 + 4 * i) 5)) / (500 : Int32)))) / (32 : Int32)))) 7 ((f (18 + 4 * i) 7) + ((((x * (f 4 25)) / (1000 : Int32)) - (f (18 + 4 * i) 7)) / (8 : Int32)))) 9 ((f (18 + 4 * i) 9) + (t2_abs_v x)))) i (f 4 24)) i (t2_heldTo_v (((f (18 + 4 * i) 2) + x) - (f 4 27)) (0 : Int32) ((f (18 + 4 * i) 0) * (3600 : Int32))), l)) rfl rfl (fl_oks_ok ⟨True.intro, t2_kc0 hi, True.intro⟩) rfl ?_
  refine fl_Tq.stp (pc' := 138) (lv' := [some (.inr (.inr (.inl (18, 18 + 4 * i)))), some (.inl x), some (.inr (.inr (.inl (3, 3)))), some (.inr (.inr (.inl (4, 4)))), some (.inl (t2_heldTo_v (((f (18 + 4 * i) 2) + x) - (f 4 27)) (0 : Int32) ((f (18 + 4 * i) 0) * (3600 : Int32)))), some (.inl (x / (1000 : Int32)))]) (st' := [.inl (((c0_putCharge_m (c0_wear_m (fl_row f (18 + 4 * i) (upd (upd (upd (f (18 + 4 * i)) 6 (((f (18 + 4 * i) 6) + ((((x / (1000 : Int32)) * (x / (1000 : Int32))) * (f (18 + 4 * i) 5)) / (500 : Int32))) + (((f 4 6) - ((f (18 + 4 * i) 6) + ((((x / (1000 : Int32)) * (x / (1000 : Int32))) * (f (18 + 4 * i) 5)) / (500 : Int32)))) / (32 : Int32)))) 7 ((f (18 + 4 * i) 7) + ((((x * (f 4 25)) / (1000 : Int32)) - (f (18 + 4 * i) 7)) / (8 : Int32)))) 9 ((f (18 + 4 * i) 9) + (t2_abs_v x)))) i (f 4 24)) i (t2_heldTo_v (((f (18 + 4 * i) 2) + x) - (f 4 27)) (0 : Int32) ((f (18 + 4 * i) 0) * (3600 : Int32)))) (18 + 4 * i) 8) + x), .inr (.inr (.inl (18, 18 + 4 * i)))]) (m' := (c0_putCharge_m (c0_wear_m (fl_row f (18 + 4 * i) (upd (upd (upd (f (18 + 4 * i)) 6 (((f (18 + 4 * i) 6) + ((((x / (1000 : Int32)) * (x / (1000 : Int32))) * (f (18 + 4 * i) 5)) / (500 : Int32))) + (((f 4 6) - ((f (18 + 4 * i) 6) + ((((x / (1000 : Int32)) * (x / (1000 : Int32))) * (f (18 + 4 * i) 5)) / (500 : Int32)))) / (32 : Int32)))) 7 ((f (18 + 4 * i) 7) + ((((x * (f 4 25)) / (1000 : Int32)) - (f (18 + 4 * i) 7)) / (8 : Int32)))) 9 ((f (18 + 4 * i) 9) + (t2_abs_v x)))) i (f 4 24)) i (t2_heldTo_v (((f (18 + 4 * i) 2) + x) - (f 4 27)) (0 : Int32) ((f (18 + 4 * i) 0) * (3600 : Int32))), l)) rfl rfl (fl_oks_ok ⟨True.intro, True.intro, t2_kc0 hi, True.intro⟩) rfl ?_
  refine fl_Tq.stp (pc' := 139) (lv' := [some (.inr (.inr (.inl (18, 18 + 4 * i)))), some (.inl x), some (.inr (.inr (.inl (3, 3)))), some (.inr (.inr (.inl (4, 4)))), some (.inl (t2_heldTo_v (((f (18 + 4 * i) 2) + x) - (f 4 27)) (0 : Int32) ((f (18 + 4 * i) 0) * (3600 : Int32)))), some (.inl (x / (1000 : Int32)))]) (st' := [.inr (.inr (.inl (4, 4))), .inl (((c0_putCharge_m (c0_wear_m (fl_row f (18 + 4 * i) (upd (upd (upd (f (18 + 4 * i)) 6 (((f (18 + 4 * i) 6) + ((((x / (1000 : Int32)) * (x / (1000 : Int32))) * (f (18 + 4 * i) 5)) / (500 : Int32))) + (((f 4 6) - ((f (18 + 4 * i) 6) + ((((x / (1000 : Int32)) * (x / (1000 : Int32))) * (f (18 + 4 * i) 5)) / (500 : Int32)))) / (32 : Int32)))) 7 ((f (18 + 4 * i) 7) + ((((x * (f 4 25)) / (1000 : Int32)) - (f (18 + 4 * i) 7)) / (8 : Int32)))) 9 ((f (18 + 4 * i) 9) + (t2_abs_v x)))) i (f 4 24)) i (t2_heldTo_v (((f (18 + 4 * i) 2) + x) - (f 4 27)) (0 : Int32) ((f (18 + 4 * i) 0) * (3600 : Int32)))) (18 + 4 * i) 8) + x), .inr (.inr (.inl (18, 18 + 4 * i)))]) (m' := (c0_putCharge_m (c0_wear_m (fl_row f (18 + 4 * i) (upd (upd (upd (f (18 + 4 * i)) 6 (((f (18 + 4 * i) 6) + ((((x / (1000 : Int32)) * (x / (1000 : Int32))) * (f (18 + 4 * i) 5)) / (500 : Int32))) + (((f 4 6) - ((f (18 + 4 * i) 6) + ((((x / (1000 : Int32)) * (x / (1000 : Int32))) * (f (18 + 4 * i) 5)) / (500 : Int32)))) / (32 : Int32)))) 7 ((f (18 + 4 * i) 7) + ((((x * (f 4 25)) / (1000 : Int32)) - (f (18 + 4 * i) 7)) / (8 : Int32)))) 9 ((f (18 + 4 * i) 9) + (t2_abs_v x)))) i (f 4 24)) i (t2_heldTo_v (((f (18 + 4 * i) 2) + x) - (f 4 27)) (0 : Int32) ((f (18 + 4 * i) 0) * (3600 : Int32))), l)) rfl rfl (fl_oks_ok ⟨True.intro, t2_kc0 hi, True.intro⟩) rfl ?_
  refine fl_Tq.cB (c := (18 : Int32)) rfl (by decide +kernel) (fl_oks_ok ⟨fl_okp (by decide +kernel) (by decide), True.intro, t2_kc0 hi, True.intro⟩) ?_
  refine fl_Tq.ldV (p := 4) (τ := 4) (n := 30) (z := (0, 0, 0)) (k := 18) (v := f 4 18) rfl (fl_oks_ok ⟨True.intro, fl_okp (by decide +kernel) (by decide), True.intro, t2_kc0 hi, True.intro⟩) rfl (by decide +kernel) (by decide) (by simp only [c0_putCharge_fr (show 4 ≠ 18 + 4 * i by omega), c0_wear_fr (show 4 ≠ 18 + 4 * i by omega), fl_row_ne (show 4 ≠ 18 + 4 * i by omega)]) ?_
  refine fl_Tq.stp (pc' := 143) (lv' := [some (.inr (.inr (.inl (18, 18 + 4 * i)))), some (.inl x), some (.inr (.inr (.inl (3, 3)))), some (.inr (.inr (.inl (4, 4)))), some (.inl (t2_heldTo_v (((f (18 + 4 * i) 2) + x) - (f 4 27)) (0 : Int32) ((f (18 + 4 * i) 0) * (3600 : Int32)))), some (.inl (x / (1000 : Int32)))]) (st' := [.inl ((((c0_putCharge_m (c0_wear_m (fl_row f (18 + 4 * i) (upd (upd (upd (f (18 + 4 * i)) 6 (((f (18 + 4 * i) 6) + ((((x / (1000 : Int32)) * (x / (1000 : Int32))) * (f (18 + 4 * i) 5)) / (500 : Int32))) + (((f 4 6) - ((f (18 + 4 * i) 6) + ((((x / (1000 : Int32)) * (x / (1000 : Int32))) * (f (18 + 4 * i) 5)) / (500 : Int32)))) / (32 : Int32)))) 7 ((f (18 + 4 * i) 7) + ((((x * (f 4 25)) / (1000 : Int32)) - (f (18 + 4 * i) 7)) / (8 : Int32)))) 9 ((f (18 + 4 * i) 9) + (t2_abs_v x)))) i (f 4 24)) i (t2_heldTo_v (((f (18 + 4 * i) 2) + x) - (f 4 27)) (0 : Int32) ((f (18 + 4 * i) 0) * (3600 : Int32)))) (18 + 4 * i) 8) + x) + (f 4 18)), .inr (.inr (.inl (18, 18 + 4 * i)))]) (m' := (c0_putCharge_m (c0_wear_m (fl_row f (18 + 4 * i) (upd (upd (upd (f (18 + 4 * i)) 6 (((f (18 + 4 * i) 6) + ((((x / (1000 : Int32)) * (x / (1000 : Int32))) * (f (18 + 4 * i) 5)) / (500 : Int32))) + (((f 4 6) - ((f (18 + 4 * i) 6) + ((((x / (1000 : Int32)) * (x / (1000 : Int32))) * (f (18 + 4 * i) 5)) / (500 : Int32)))) / (32 : Int32)))) 7 ((f (18 + 4 * i) 7) + ((((x * (f 4 25)) / (1000 : Int32)) - (f (18 + 4 * i) 7)) / (8 : Int32)))) 9 ((f (18 + 4 * i) 9) + (t2_abs_v x)))) i (f 4 24)) i (t2_heldTo_v (((f (18 + 4 * i) 2) + x) - (f 4 27)) (0 : Int32) ((f (18 + 4 * i) 0) * (3600 : Int32))), l)) rfl rfl (fl_oks_ok ⟨True.intro, True.intro, t2_kc0 hi, True.intro⟩) rfl ?_
  refine fl_Tq.cal rfl rfl (fl_oks_ok ⟨True.intro, t2_kc0 hi, True.intro⟩) rfl ?_
  refine c0_putReckoned_q hi ?_
  show fl_Tq _ 10 146 [some (.inr (.inr (.inl (18, 18 + 4 * i)))), some (.inl x), some (.inr (.inr (.inl (3, 3)))), some (.inr (.inr (.inl (4, 4)))), some (.inl (t2_heldTo_v (((f (18 + 4 * i) 2) + x) - (f 4 27)) (0 : Int32) ((f (18 + 4 * i) 0) * (3600 : Int32)))), some (.inl (x / (1000 : Int32)))] [] (c0_putReckoned_m (c0_putCharge_m (c0_wear_m (fl_row f (18 + 4 * i) (upd (upd (upd (f (18 + 4 * i)) 6 (((f (18 + 4 * i) 6) + ((((x / (1000 : Int32)) * (x / (1000 : Int32))) * (f (18 + 4 * i) 5)) / (500 : Int32))) + (((f 4 6) - ((f (18 + 4 * i) 6) + ((((x / (1000 : Int32)) * (x / (1000 : Int32))) * (f (18 + 4 * i) 5)) / (500 : Int32)))) / (32 : Int32)))) 7 ((f (18 + 4 * i) 7) + ((((x * (f 4 25)) / (1000 : Int32)) - (f (18 + 4 * i) 7)) / (8 : Int32)))) 9 ((f (18 + 4 * i) 9) + (t2_abs_v x)))) i (f 4 24)) i (t2_heldTo_v (((f (18 + 4 * i) 2) + x) - (f 4 27)) (0 : Int32) ((f (18 + 4 * i) 0) * (3600 : Int32)))) i ((((c0_putCharge_m (c0_wear_m (fl_row f (18 + 4 * i) (upd (upd (upd (f (18 + 4 * i)) 6 (((f (18 + 4 * i) 6) + ((((x / (1000 : Int32)) * (x / (1000 : Int32))) * (f (18 + 4 * i) 5)) / (500 : Int32))) + (((f 4 6) - ((f (18 + 4 * i) 6) + ((((x / (1000 : Int32)) * (x / (1000 : Int32))) * (f (18 + 4 * i) 5)) / (500 : Int32)))) / (32 : Int32)))) 7 ((f (18 + 4 * i) 7) + ((((x * (f 4 25)) / (1000 : Int32)) - (f (18 + 4 * i) 7)) / (8 : Int32)))) 9 ((f (18 + 4 * i) 9) + (t2_abs_v x)))) i (f 4 24)) i (t2_heldTo_v (((f (18 + 4 * i) 2) + x) - (f 4 27)) (0 : Int32) ((f (18 + 4 * i) 0) * (3600 : Int32)))) (18 + 4 * i) 8) + x) + (f 4 18)), l) _
  exact fl_Tq.ret rfl rfl rfl k
noncomputable def c0_measure_j15_0 (f : t2_F) (i : Nat) (x y : Int32) : Int32 := if (f (18 + 4 * i) 10).toInt = 0 then f (18 + 4 * i) 14 else (if (t2_abs_v (x - y)).toInt < (1000 : Int32).toInt then f (18 + 4 * i) 14 else (((c0_voltsAt_v f i x) - (f (18 + 4 * i) 11)) * (1000 : Int32)) / (x - y))
noncomputable def c0_measure_m (f : t2_F) (i : Nat) (x y : Int32) : t2_F := fl_row f (18 + 4 * i) (upd (upd (upd (f (18 + 4 * i)) 14 (c0_measure_j15_0 f i x y)) 11 (c0_voltsAt_v f i x)) 16 ((f (18 + 4 * i) 16) + x))
theorem c0_measure_fr {f : t2_F} {i : Nat} {x y : Int32} {p : Nat} (e0 : p ≠ 18 + 4 * i) : c0_measure_m f i x y p = f p := by
  unfold c0_measure_m
  repeat' split
  all_goals first | rfl | simp only [fl_row_ne e0]
theorem c0_measure_q {L : Nat} {xs : Nat → Int32} {f : t2_F} {l : t2_L} {Q : Option fl_V → fl_M → Prop} {i : Nat} {x y : Int32} (hi : i < 16) (k : Q none (c0_measure_m f i x y, l)) : fl_Tq (pw_P L xs) 14 0 (fl_args (am_mxl (pw_P L xs) 14) [.inr (.inr (.inl (18, 18 + 4 * i))), .inl x, .inl y]) [] (f, l) Q := by
  refine fl_Tq.stp (pc' := 1) (lv' := [some (.inr (.inr (.inl (18, 18 + 4 * i)))), some (.inl x), some (.inl y), none, none]) (st' := [.inr (.inr (.inl (18, 18 + 4 * i)))]) (m' := (f, l)) rfl rfl (fl_bo rfl) rfl ?_
  refine fl_Tq.stp (pc' := 2) (lv' := [some (.inr (.inr (.inl (18, 18 + 4 * i)))), some (.inl x), some (.inl y), none, none]) (st' := [.inl x, .inr (.inr (.inl (18, 18 + 4 * i)))]) (m' := (f, l)) rfl rfl (fl_oks_ok ⟨t2_kc0 hi, True.intro⟩) rfl ?_
  refine fl_Tq.cal rfl rfl (fl_oks_ok ⟨True.intro, t2_kc0 hi, True.intro⟩) rfl ?_
  refine c0_voltsAt_q hi ?_
  show fl_Tq _ 14 5 [some (.inr (.inr (.inl (18, 18 + 4 * i)))), some (.inl x), some (.inl y), none, none] [.inl (c0_voltsAt_v f i x)] (f, l) _
  refine fl_Tq.stp (pc' := 6) (lv' := [some (.inr (.inr (.inl (18, 18 + 4 * i)))), some (.inl x), some (.inl y), some (.inl (c0_voltsAt_v f i x)), none]) (st' := []) (m' := (f, l)) rfl rfl (fl_bo rfl) rfl ?_
  refine fl_Tq.stp (pc' := 7) (lv' := [some (.inr (.inr (.inl (18, 18 + 4 * i)))), some (.inl x), some (.inl y), some (.inl (c0_voltsAt_v f i x)), none]) (st' := [.inl x]) (m' := (f, l)) rfl rfl (fl_bo rfl) rfl ?_
  refine fl_Tq.stp (pc' := 8) (lv' := [some (.inr (.inr (.inl (18, 18 + 4 * i)))), some (.inl x), some (.inl y), some (.inl (c0_voltsAt_v f i x)), none]) (st' := [.inl y, .inl x]) (m' := (f, l)) rfl rfl (fl_bo rfl) rfl ?_
  refine fl_Tq.stp (pc' := 9) (lv' := [some (.inr (.inr (.inl (18, 18 + 4 * i)))), some (.inl x), some (.inl y), some (.inl (c0_voltsAt_v f i x)), none]) (st' := [.inl (x - y)]) (m' := (f, l)) rfl rfl (fl_bo rfl) rfl ?_
  refine fl_Tq.stp (pc' := 11) (lv' := [some (.inr (.inr (.inl (18, 18 + 4 * i)))), some (.inl x), some (.inl y), some (.inl (c0_voltsAt_v f i x)), some (.inl (x - y))]) (st' := []) (m' := (f, l)) rfl rfl (fl_bo rfl) rfl ?_
  refine fl_Tq.stp (pc' := 12) (lv' := [some (.inr (.inr (.inl (18, 18 + 4 * i)))), some (.inl x), some (.inl y), some (.inl (c0_voltsAt_v f i x)), some (.inl (x - y))]) (st' := [.inr (.inr (.inl (18, 18 + 4 * i)))]) (m' := (f, l)) rfl rfl (fl_bo rfl) rfl ?_
  refine fl_Tq.gfV (k := 10) (v := f (18 + 4 * i) 10) rfl (fl_oks_ok ⟨t2_kc0 hi, True.intro⟩) rfl rfl ?_
  have hj6 : fl_Tq (pw_P L xs) 14 46 [some (.inr (.inr (.inl (18, 18 + 4 * i)))), some (.inl x), some (.inl y), some (.inl (c0_voltsAt_v f i x)), some (.inl (x - y))] [] (fl_row f (18 + 4 * i) (upd (f (18 + 4 * i)) 14 (c0_measure_j15_0 f i x y)), l) Q → fl_Tq (pw_P L xs) 14 15 [some (.inr (.inr (.inl (18, 18 + 4 * i)))), some (.inl x), some (.inl y), some (.inl (c0_voltsAt_v f i x)), some (.inl (x - y))] [.inl (f (18 + 4 * i) 10)] (f, l) Q := by
    intro hJ
    by_cases h1 : (f (18 + 4 * i) 10).toInt = 0
    · refine fl_Tq.zt rfl (fl_bo rfl) (c1_eq_t h1) rfl ?_
      have e0 : (fl_row f (18 + 4 * i) (upd (f (18 + 4 * i)) 14 (c0_measure_j15_0 f i x y))) = f := by
        simp only [c0_measure_j15_0, if_pos h1]
        funext q j
        simp only [fl_row, upd]
        repeat' split
        all_goals first | rfl | simp_all
      rw [e0] at hJ
      exact hJ
    · refine fl_Tq.zf rfl (fl_bo rfl) (c1_eq_f h1) rfl ?_
      refine fl_Tq.stp (pc' := 20) (lv' := [some (.inr (.inr (.inl (18, 18 + 4 * i)))), some (.inl x), some (.inl y), some (.inl (c0_voltsAt_v f i x)), some (.inl (x - y))]) (st' := [.inl (x - y)]) (m' := (f, l)) rfl rfl (fl_bo rfl) rfl ?_
      refine fl_Tq.cal rfl rfl (fl_bo rfl) rfl ?_
      refine t2_abs_q  ?_
      show fl_Tq _ 14 23 [some (.inr (.inr (.inl (18, 18 + 4 * i)))), some (.inl x), some (.inl y), some (.inl (c0_voltsAt_v f i x)), some (.inl (x - y))] [.inl (t2_abs_v (x - y))] (f, l) _
      refine fl_Tq.cS (c := (1000 : Int32)) rfl (by decide +kernel) (fl_bo rfl) ?_
      by_cases h2 : (t2_abs_v (x - y)).toInt < (1000 : Int32).toInt
      · refine fl_Tq.jt rfl (fl_bo rfl) (c2_lt_t h2) rfl ?_
        have e0 : (fl_row f (18 + 4 * i) (upd (f (18 + 4 * i)) 14 (c0_measure_j15_0 f i x y))) = f := by
          simp only [c0_measure_j15_0, if_neg h1, if_pos h2]
          funext q j
          simp only [fl_row, upd]
          repeat' split
          all_goals first | rfl | simp_all
        rw [e0] at hJ
        exact hJ
      · refine fl_Tq.jf rfl (fl_bo rfl) (c2_lt_f h2) rfl ?_
        refine fl_Tq.stp (pc' := 30) (lv' := [some (.inr (.inr (.inl (18, 18 + 4 * i)))), some (.inl x), some (.inl y), some (.inl (c0_voltsAt_v f i x)), some (.inl (x - y))]) (st' := [.inr (.inr (.inl (18, 18 + 4 * i)))]) (m' := (f, l)) rfl rfl (fl_bo rfl) rfl ?_
        refine fl_Tq.stp (pc' := 31) (lv' := [some (.inr (.inr (.inl (18, 18 + 4 * i)))), some (.inl x), some (.inl y), some (.inl (c0_voltsAt_v f i x)), some (.inl (x - y))]) (st' := [.inl (c0_voltsAt_v f i x), .inr (.inr (.inl (18, 18 + 4 * i)))]) (m' := (f, l)) rfl rfl (fl_oks_ok ⟨t2_kc0 hi, True.intro⟩) rfl ?_
        refine fl_Tq.stp (pc' := 32) (lv' := [some (.inr (.inr (.inl (18, 18 + 4 * i)))), some (.inl x), some (.inl y), some (.inl (c0_voltsAt_v f i x)), some (.inl (x - y))]) (st' := [.inr (.inr (.inl (18, 18 + 4 * i))), .inl (c0_voltsAt_v f i x), .inr (.inr (.inl (18, 18 + 4 * i)))]) (m' := (f, l)) rfl rfl (fl_oks_ok ⟨True.intro, t2_kc0 hi, True.intro⟩) rfl ?_
        refine fl_Tq.gfV (k := 11) (v := f (18 + 4 * i) 11) rfl (fl_oks_ok ⟨t2_kc0 hi, True.intro, t2_kc0 hi, True.intro⟩) rfl rfl ?_
        refine fl_Tq.stp (pc' := 36) (lv' := [some (.inr (.inr (.inl (18, 18 + 4 * i)))), some (.inl x), some (.inl y), some (.inl (c0_voltsAt_v f i x)), some (.inl (x - y))]) (st' := [.inl ((c0_voltsAt_v f i x) - (f (18 + 4 * i) 11)), .inr (.inr (.inl (18, 18 + 4 * i)))]) (m' := (f, l)) rfl rfl (fl_oks_ok ⟨True.intro, True.intro, t2_kc0 hi, True.intro⟩) rfl ?_
        refine fl_Tq.cS (c := (1000 : Int32)) rfl (by decide +kernel) (fl_oks_ok ⟨True.intro, t2_kc0 hi, True.intro⟩) ?_
        refine fl_Tq.stp (pc' := 40) (lv' := [some (.inr (.inr (.inl (18, 18 + 4 * i)))), some (.inl x), some (.inl y), some (.inl (c0_voltsAt_v f i x)), some (.inl (x - y))]) (st' := [.inl (((c0_voltsAt_v f i x) - (f (18 + 4 * i) 11)) * (1000 : Int32)), .inr (.inr (.inl (18, 18 + 4 * i)))]) (m' := (f, l)) rfl rfl (fl_oks_ok ⟨True.intro, True.intro, t2_kc0 hi, True.intro⟩) rfl ?_
        refine fl_Tq.stp (pc' := 42) (lv' := [some (.inr (.inr (.inl (18, 18 + 4 * i)))), some (.inl x), some (.inl y), some (.inl (c0_voltsAt_v f i x)), some (.inl (x - y))]) (st' := [.inl (x - y), .inl (((c0_voltsAt_v f i x) - (f (18 + 4 * i) 11)) * (1000 : Int32)), .inr (.inr (.inl (18, 18 + 4 * i)))]) (m' := (f, l)) rfl rfl (fl_oks_ok ⟨True.intro, t2_kc0 hi, True.intro⟩) rfl ?_
        refine fl_Tq.dv rfl (fl_oks_ok ⟨True.intro, True.intro, t2_kc0 hi, True.intro⟩) (t2_abs_nz h2) ?_
        refine fl_Tq.pfV (k := 14) (m' := (fl_row f (18 + 4 * i) (upd (f (18 + 4 * i)) 14 ((((c0_voltsAt_v f i x) - (f (18 + 4 * i) 11)) * (1000 : Int32)) / (x - y))), l)) rfl (fl_oks_ok ⟨True.intro, t2_kc0 hi, True.intro⟩) rfl (t2_upn rfl) ?_
        have e0 : (fl_row f (18 + 4 * i) (upd (f (18 + 4 * i)) 14 (c0_measure_j15_0 f i x y))) = fl_row f (18 + 4 * i) (upd (f (18 + 4 * i)) 14 ((((c0_voltsAt_v f i x) - (f (18 + 4 * i) 11)) * (1000 : Int32)) / (x - y))) := by
          simp only [c0_measure_j15_0, if_neg h1, if_neg h2]
        rw [e0] at hJ
        exact hJ
  refine hj6 ?_
  show fl_Tq _ 14 46 [some (.inr (.inr (.inl (18, 18 + 4 * i)))), some (.inl x), some (.inl y), some (.inl (c0_voltsAt_v f i x)), some (.inl (x - y))] [] (fl_row f (18 + 4 * i) (upd (f (18 + 4 * i)) 14 (c0_measure_j15_0 f i x y)), l) _
  refine fl_Tq.stp (pc' := 47) (lv' := [some (.inr (.inr (.inl (18, 18 + 4 * i)))), some (.inl x), some (.inl y), some (.inl (c0_voltsAt_v f i x)), some (.inl (x - y))]) (st' := [.inr (.inr (.inl (18, 18 + 4 * i)))]) (m' := (fl_row f (18 + 4 * i) (upd (f (18 + 4 * i)) 14 (c0_measure_j15_0 f i x y)), l)) rfl rfl (fl_bo rfl) rfl ?_
  refine fl_Tq.stp (pc' := 48) (lv' := [some (.inr (.inr (.inl (18, 18 + 4 * i)))), some (.inl x), some (.inl y), some (.inl (c0_voltsAt_v f i x)), some (.inl (x - y))]) (st' := [.inl (c0_voltsAt_v f i x), .inr (.inr (.inl (18, 18 + 4 * i)))]) (m' := (fl_row f (18 + 4 * i) (upd (f (18 + 4 * i)) 14 (c0_measure_j15_0 f i x y)), l)) rfl rfl (fl_oks_ok ⟨t2_kc0 hi, True.intro⟩) rfl ?_
  refine fl_Tq.pfV (k := 11) (m' := (fl_row f (18 + 4 * i) (upd (upd (f (18 + 4 * i)) 14 (c0_measure_j15_0 f i x y)) 11 (c0_voltsAt_v f i x)), l)) rfl (fl_oks_ok ⟨True.intro, t2_kc0 hi, True.intro⟩) rfl (t2_upr) ?_
  refine fl_Tq.stp (pc' := 52) (lv' := [some (.inr (.inr (.inl (18, 18 + 4 * i)))), some (.inl x), some (.inl y), some (.inl (c0_voltsAt_v f i x)), some (.inl (x - y))]) (st' := [.inr (.inr (.inl (18, 18 + 4 * i)))]) (m' := (fl_row f (18 + 4 * i) (upd (upd (f (18 + 4 * i)) 14 (c0_measure_j15_0 f i x y)) 11 (c0_voltsAt_v f i x)), l)) rfl rfl (fl_bo rfl) rfl ?_
  refine fl_Tq.stp (pc' := 53) (lv' := [some (.inr (.inr (.inl (18, 18 + 4 * i)))), some (.inl x), some (.inl y), some (.inl (c0_voltsAt_v f i x)), some (.inl (x - y))]) (st' := [.inr (.inr (.inl (18, 18 + 4 * i))), .inr (.inr (.inl (18, 18 + 4 * i)))]) (m' := (fl_row f (18 + 4 * i) (upd (upd (f (18 + 4 * i)) 14 (c0_measure_j15_0 f i x y)) 11 (c0_voltsAt_v f i x)), l)) rfl rfl (fl_oks_ok ⟨t2_kc0 hi, True.intro⟩) rfl ?_
  refine fl_Tq.gfV (k := 16) (v := f (18 + 4 * i) 16) rfl (fl_oks_ok ⟨t2_kc0 hi, t2_kc0 hi, True.intro⟩) rfl (by simp only [fl_row_self, upd_ne (by decide : 16 ≠ 11), upd_ne (by decide : 16 ≠ 14)]) ?_
  refine fl_Tq.stp (pc' := 57) (lv' := [some (.inr (.inr (.inl (18, 18 + 4 * i)))), some (.inl x), some (.inl y), some (.inl (c0_voltsAt_v f i x)), some (.inl (x - y))]) (st' := [.inl x, .inl (f (18 + 4 * i) 16), .inr (.inr (.inl (18, 18 + 4 * i)))]) (m' := (fl_row f (18 + 4 * i) (upd (upd (f (18 + 4 * i)) 14 (c0_measure_j15_0 f i x y)) 11 (c0_voltsAt_v f i x)), l)) rfl rfl (fl_oks_ok ⟨True.intro, t2_kc0 hi, True.intro⟩) rfl ?_
  refine fl_Tq.stp (pc' := 58) (lv' := [some (.inr (.inr (.inl (18, 18 + 4 * i)))), some (.inl x), some (.inl y), some (.inl (c0_voltsAt_v f i x)), some (.inl (x - y))]) (st' := [.inl ((f (18 + 4 * i) 16) + x), .inr (.inr (.inl (18, 18 + 4 * i)))]) (m' := (fl_row f (18 + 4 * i) (upd (upd (f (18 + 4 * i)) 14 (c0_measure_j15_0 f i x y)) 11 (c0_voltsAt_v f i x)), l)) rfl rfl (fl_oks_ok ⟨True.intro, True.intro, t2_kc0 hi, True.intro⟩) rfl ?_
  refine fl_Tq.pfV (k := 16) (m' := (fl_row f (18 + 4 * i) (upd (upd (upd (f (18 + 4 * i)) 14 (c0_measure_j15_0 f i x y)) 11 (c0_voltsAt_v f i x)) 16 ((f (18 + 4 * i) 16) + x)), l)) rfl (fl_oks_ok ⟨True.intro, t2_kc0 hi, True.intro⟩) rfl (t2_upr) ?_
  exact fl_Tq.ret rfl rfl rfl k
noncomputable def c0_reckonAtRest_j36_0 (f : t2_F) (i : Nat) : Int32 := if ((c0_putReckoned_m f i (t2_chargeBy_v (t2_pb (c0_voltsAt_v f i (0 : Int32))) (f (18 + 4 * i) 0))) (18 + 4 * i) 17).toInt = (-1 : Int32).toInt then (c0_putReckoned_m f i (t2_chargeBy_v (t2_pb (c0_voltsAt_v f i (0 : Int32))) (f (18 + 4 * i) 0))) (18 + 4 * i) 15 else (if (t2_abs_v ((t2_pb (c0_voltsAt_v f i (0 : Int32))) - (f (18 + 4 * i) 17))).toInt < (100 : Int32).toInt then (c0_putReckoned_m f i (t2_chargeBy_v (t2_pb (c0_voltsAt_v f i (0 : Int32))) (f (18 + 4 * i) 0))) (18 + 4 * i) 15 else ((((t2_abs_v ((c0_putReckoned_m f i (t2_chargeBy_v (t2_pb (c0_voltsAt_v f i (0 : Int32))) (f (18 + 4 * i) 0))) (18 + 4 * i) 16)).toInt64) * (1000 : Int64)) / (((t2_abs_v ((t2_pb (c0_voltsAt_v f i (0 : Int32))) - (f (18 + 4 * i) 17))).toInt64) * (3600 : Int64))).toInt32)
noncomputable def c0_reckonAtRest_m (f : t2_F) (i : Nat) : t2_F := fl_row (c0_putReckoned_m f i (t2_chargeBy_v (t2_pb (c0_voltsAt_v f i (0 : Int32))) (f (18 + 4 * i) 0))) (18 + 4 * i) (upd (upd (upd ((c0_putReckoned_m f i (t2_chargeBy_v (t2_pb (c0_voltsAt_v f i (0 : Int32))) (f (18 + 4 * i) 0))) (18 + 4 * i)) 15 (c0_reckonAtRest_j36_0 f i)) 17 (t2_pb (c0_voltsAt_v f i (0 : Int32)))) 16 (0 : Int32))
theorem c0_reckonAtRest_fr {f : t2_F} {i : Nat} {p : Nat} (e0 : p ≠ 18 + 4 * i) : c0_reckonAtRest_m f i p = f p := by
  unfold c0_reckonAtRest_m
  repeat' split
  all_goals first | rfl | simp only [fl_row_ne e0, c0_putReckoned_fr e0]
theorem c0_reckonAtRest_q {L : Nat} {xs : Nat → Int32} {f : t2_F} {l : t2_L} {Q : Option fl_V → fl_M → Prop} {i : Nat} (hi : i < 16) (k : Q none (c0_reckonAtRest_m f i, l)) : fl_Tq (pw_P L xs) 15 0 (fl_args (am_mxl (pw_P L xs) 15) [.inr (.inr (.inl (18, 18 + 4 * i)))]) [] (f, l) Q := by
  refine fl_Tq.stp (pc' := 1) (lv' := [some (.inr (.inr (.inl (18, 18 + 4 * i)))), none, none]) (st' := [.inr (.inr (.inl (18, 18 + 4 * i)))]) (m' := (f, l)) rfl rfl (fl_bo rfl) rfl ?_
  refine fl_Tq.cI (c := (0 : Int32)) rfl (by decide +kernel) (fl_oks_ok ⟨t2_kc0 hi, True.intro⟩) ?_
  refine fl_Tq.cal rfl rfl (fl_oks_ok ⟨True.intro, t2_kc0 hi, True.intro⟩) rfl ?_
  refine c0_voltsAt_q hi ?_
  show fl_Tq _ 15 5 [some (.inr (.inr (.inl (18, 18 + 4 * i)))), none, none] [.inl (c0_voltsAt_v f i (0 : Int32))] (f, l) _
  refine fl_Tq.cal rfl rfl (fl_bo rfl) rfl ?_
  refine t2_pb_q  ?_
  show fl_Tq _ 15 8 [some (.inr (.inr (.inl (18, 18 + 4 * i)))), none, none] [.inl (t2_pb (c0_voltsAt_v f i (0 : Int32)))] (f, l) _
  refine fl_Tq.stp (pc' := 9) (lv' := [some (.inr (.inr (.inl (18, 18 + 4 * i)))), some (.inl (t2_pb (c0_voltsAt_v f i (0 : Int32)))), none]) (st' := []) (m' := (f, l)) rfl rfl (fl_bo rfl) rfl ?_
  refine fl_Tq.stp (pc' := 10) (lv' := [some (.inr (.inr (.inl (18, 18 + 4 * i)))), some (.inl (t2_pb (c0_voltsAt_v f i (0 : Int32)))), none]) (st' := [.inl (t2_pb (c0_voltsAt_v f i (0 : Int32)))]) (m' := (f, l)) rfl rfl (fl_bo rfl) rfl ?_
  refine fl_Tq.stp (pc' := 11) (lv' := [some (.inr (.inr (.inl (18, 18 + 4 * i)))), some (.inl (t2_pb (c0_voltsAt_v f i (0 : Int32)))), none]) (st' := [.inr (.inr (.inl (18, 18 + 4 * i))), .inl (t2_pb (c0_voltsAt_v f i (0 : Int32)))]) (m' := (f, l)) rfl rfl (fl_bo rfl) rfl ?_
  refine fl_Tq.gfV (k := 17) (v := f (18 + 4 * i) 17) rfl (fl_oks_ok ⟨t2_kc0 hi, True.intro, True.intro⟩) rfl rfl ?_
  refine fl_Tq.stp (pc' := 15) (lv' := [some (.inr (.inr (.inl (18, 18 + 4 * i)))), some (.inl (t2_pb (c0_voltsAt_v f i (0 : Int32)))), none]) (st' := [.inl ((t2_pb (c0_voltsAt_v f i (0 : Int32))) - (f (18 + 4 * i) 17))]) (m' := (f, l)) rfl rfl (fl_bo rfl) rfl ?_
  refine fl_Tq.cal rfl rfl (fl_bo rfl) rfl ?_
  refine t2_abs_q  ?_
  show fl_Tq _ 15 18 [some (.inr (.inr (.inl (18, 18 + 4 * i)))), some (.inl (t2_pb (c0_voltsAt_v f i (0 : Int32)))), none] [.inl (t2_abs_v ((t2_pb (c0_voltsAt_v f i (0 : Int32))) - (f (18 + 4 * i) 17)))] (f, l) _
  refine fl_Tq.stp (pc' := 19) (lv' := [some (.inr (.inr (.inl (18, 18 + 4 * i)))), some (.inl (t2_pb (c0_voltsAt_v f i (0 : Int32)))), some (.inl (t2_abs_v ((t2_pb (c0_voltsAt_v f i (0 : Int32))) - (f (18 + 4 * i) 17))))]) (st' := []) (m' := (f, l)) rfl rfl (fl_bo rfl) rfl ?_
  refine fl_Tq.stp (pc' := 20) (lv' := [some (.inr (.inr (.inl (18, 18 + 4 * i)))), some (.inl (t2_pb (c0_voltsAt_v f i (0 : Int32)))), some (.inl (t2_abs_v ((t2_pb (c0_voltsAt_v f i (0 : Int32))) - (f (18 + 4 * i) 17))))]) (st' := [.inr (.inr (.inl (18, 18 + 4 * i)))]) (m' := (f, l)) rfl rfl (fl_bo rfl) rfl ?_
  refine fl_Tq.stp (pc' := 21) (lv' := [some (.inr (.inr (.inl (18, 18 + 4 * i)))), some (.inl (t2_pb (c0_voltsAt_v f i (0 : Int32)))), some (.inl (t2_abs_v ((t2_pb (c0_voltsAt_v f i (0 : Int32))) - (f (18 + 4 * i) 17))))]) (st' := [.inl (t2_pb (c0_voltsAt_v f i (0 : Int32))), .inr (.inr (.inl (18, 18 + 4 * i)))]) (m' := (f, l)) rfl rfl (fl_oks_ok ⟨t2_kc0 hi, True.intro⟩) rfl ?_
  refine fl_Tq.stp (pc' := 22) (lv' := [some (.inr (.inr (.inl (18, 18 + 4 * i)))), some (.inl (t2_pb (c0_voltsAt_v f i (0 : Int32)))), some (.inl (t2_abs_v ((t2_pb (c0_voltsAt_v f i (0 : Int32))) - (f (18 + 4 * i) 17))))]) (st' := [.inr (.inr (.inl (18, 18 + 4 * i))), .inl (t2_pb (c0_voltsAt_v f i (0 : Int32))), .inr (.inr (.inl (18, 18 + 4 * i)))]) (m' := (f, l)) rfl rfl (fl_oks_ok ⟨True.intro, t2_kc0 hi, True.intro⟩) rfl ?_
  refine fl_Tq.gfV (k := 0) (v := f (18 + 4 * i) 0) rfl (fl_oks_ok ⟨t2_kc0 hi, True.intro, t2_kc0 hi, True.intro⟩) rfl rfl ?_
  refine fl_Tq.cal rfl rfl (fl_oks_ok ⟨True.intro, True.intro, t2_kc0 hi, True.intro⟩) rfl ?_
  refine t2_chargeBy_q  ?_
  show fl_Tq _ 15 28 [some (.inr (.inr (.inl (18, 18 + 4 * i)))), some (.inl (t2_pb (c0_voltsAt_v f i (0 : Int32)))), some (.inl (t2_abs_v ((t2_pb (c0_voltsAt_v f i (0 : Int32))) - (f (18 + 4 * i) 17))))] [.inl (t2_chargeBy_v (t2_pb (c0_voltsAt_v f i (0 : Int32))) (f (18 + 4 * i) 0)), .inr (.inr (.inl (18, 18 + 4 * i)))] (f, l) _
  refine fl_Tq.cal rfl rfl (fl_oks_ok ⟨True.intro, t2_kc0 hi, True.intro⟩) rfl ?_
  refine c0_putReckoned_q hi ?_
  show fl_Tq _ 15 31 [some (.inr (.inr (.inl (18, 18 + 4 * i)))), some (.inl (t2_pb (c0_voltsAt_v f i (0 : Int32)))), some (.inl (t2_abs_v ((t2_pb (c0_voltsAt_v f i (0 : Int32))) - (f (18 + 4 * i) 17))))] [] (c0_putReckoned_m f i (t2_chargeBy_v (t2_pb (c0_voltsAt_v f i (0 : Int32))) (f (18 + 4 * i) 0)), l) _
  refine fl_Tq.stp (pc' := 32) (lv' := [some (.inr (.inr (.inl (18, 18 + 4 * i)))), some (.inl (t2_pb (c0_voltsAt_v f i (0 : Int32)))), some (.inl (t2_abs_v ((t2_pb (c0_voltsAt_v f i (0 : Int32))) - (f (18 + 4 * i) 17))))]) (st' := [.inr (.inr (.inl (18, 18 + 4 * i)))]) (m' := (c0_putReckoned_m f i (t2_chargeBy_v (t2_pb (c0_voltsAt_v f i (0 : Int32))) (f (18 + 4 * i) 0)), l)) rfl rfl (fl_bo rfl) rfl ?_
  refine fl_Tq.gfV (k := 17) (v := (c0_putReckoned_m f i (t2_chargeBy_v (t2_pb (c0_voltsAt_v f i (0 : Int32))) (f (18 + 4 * i) 0))) (18 + 4 * i) 17) rfl (fl_oks_ok ⟨t2_kc0 hi, True.intro⟩) rfl rfl ?_
  refine fl_Tq.cI (c := (-1 : Int32)) rfl (by decide +kernel) (fl_bo rfl) ?_
  have hj7 : fl_Tq (pw_P L xs) 15 69 [some (.inr (.inr (.inl (18, 18 + 4 * i)))), some (.inl (t2_pb (c0_voltsAt_v f i (0 : Int32)))), some (.inl (t2_abs_v ((t2_pb (c0_voltsAt_v f i (0 : Int32))) - (f (18 + 4 * i) 17))))] [] (fl_row (c0_putReckoned_m f i (t2_chargeBy_v (t2_pb (c0_voltsAt_v f i (0 : Int32))) (f (18 + 4 * i) 0))) (18 + 4 * i) (upd ((c0_putReckoned_m f i (t2_chargeBy_v (t2_pb (c0_voltsAt_v f i (0 : Int32))) (f (18 + 4 * i) 0))) (18 + 4 * i)) 15 (c0_reckonAtRest_j36_0 f i)), l) Q → fl_Tq (pw_P L xs) 15 36 [some (.inr (.inr (.inl (18, 18 + 4 * i)))), some (.inl (t2_pb (c0_voltsAt_v f i (0 : Int32)))), some (.inl (t2_abs_v ((t2_pb (c0_voltsAt_v f i (0 : Int32))) - (f (18 + 4 * i) 17))))] [.inl (-1 : Int32), .inl ((c0_putReckoned_m f i (t2_chargeBy_v (t2_pb (c0_voltsAt_v f i (0 : Int32))) (f (18 + 4 * i) 0))) (18 + 4 * i) 17)] (c0_putReckoned_m f i (t2_chargeBy_v (t2_pb (c0_voltsAt_v f i (0 : Int32))) (f (18 + 4 * i) 0)), l) Q := by
    intro hJ
    by_cases h1 : ((c0_putReckoned_m f i (t2_chargeBy_v (t2_pb (c0_voltsAt_v f i (0 : Int32))) (f (18 + 4 * i) 0))) (18 + 4 * i) 17).toInt = (-1 : Int32).toInt
    · refine fl_Tq.jt rfl (fl_bo rfl) (c2_eq_t h1) rfl ?_
      have e0 : (fl_row (c0_putReckoned_m f i (t2_chargeBy_v (t2_pb (c0_voltsAt_v f i (0 : Int32))) (f (18 + 4 * i) 0))) (18 + 4 * i) (upd ((c0_putReckoned_m f i (t2_chargeBy_v (t2_pb (c0_voltsAt_v f i (0 : Int32))) (f (18 + 4 * i) 0))) (18 + 4 * i)) 15 (c0_reckonAtRest_j36_0 f i))) = c0_putReckoned_m f i (t2_chargeBy_v (t2_pb (c0_voltsAt_v f i (0 : Int32))) (f (18 + 4 * i) 0)) := by
        simp only [c0_reckonAtRest_j36_0, if_pos h1]
        funext q j
        simp only [fl_row, upd]
        repeat' split
        all_goals first | rfl | simp_all
      rw [e0] at hJ
      exact hJ
    · refine fl_Tq.jf rfl (fl_bo rfl) (c2_eq_f h1) rfl ?_
      refine fl_Tq.stp (pc' := 40) (lv' := [some (.inr (.inr (.inl (18, 18 + 4 * i)))), some (.inl (t2_pb (c0_voltsAt_v f i (0 : Int32)))), some (.inl (t2_abs_v ((t2_pb (c0_voltsAt_v f i (0 : Int32))) - (f (18 + 4 * i) 17))))]) (st' := [.inl (t2_abs_v ((t2_pb (c0_voltsAt_v f i (0 : Int32))) - (f (18 + 4 * i) 17)))]) (m' := (c0_putReckoned_m f i (t2_chargeBy_v (t2_pb (c0_voltsAt_v f i (0 : Int32))) (f (18 + 4 * i) 0)), l)) rfl rfl (fl_bo rfl) rfl ?_
      refine fl_Tq.cB (c := (100 : Int32)) rfl (by decide +kernel) (fl_bo rfl) ?_
      by_cases h2 : (t2_abs_v ((t2_pb (c0_voltsAt_v f i (0 : Int32))) - (f (18 + 4 * i) 17))).toInt < (100 : Int32).toInt
      · refine fl_Tq.jt rfl (fl_bo rfl) (c2_lt_t h2) rfl ?_
        have e0 : (fl_row (c0_putReckoned_m f i (t2_chargeBy_v (t2_pb (c0_voltsAt_v f i (0 : Int32))) (f (18 + 4 * i) 0))) (18 + 4 * i) (upd ((c0_putReckoned_m f i (t2_chargeBy_v (t2_pb (c0_voltsAt_v f i (0 : Int32))) (f (18 + 4 * i) 0))) (18 + 4 * i)) 15 (c0_reckonAtRest_j36_0 f i))) = c0_putReckoned_m f i (t2_chargeBy_v (t2_pb (c0_voltsAt_v f i (0 : Int32))) (f (18 + 4 * i) 0)) := by
          simp only [c0_reckonAtRest_j36_0, if_neg h1, if_pos h2]
          funext q j
          simp only [fl_row, upd]
          repeat' split
          all_goals first | rfl | simp_all
        rw [e0] at hJ
        exact hJ
      · refine fl_Tq.jf rfl (fl_bo rfl) (c2_lt_f h2) rfl ?_
        refine fl_Tq.stp (pc' := 46) (lv' := [some (.inr (.inr (.inl (18, 18 + 4 * i)))), some (.inl (t2_pb (c0_voltsAt_v f i (0 : Int32)))), some (.inl (t2_abs_v ((t2_pb (c0_voltsAt_v f i (0 : Int32))) - (f (18 + 4 * i) 17))))]) (st' := [.inr (.inr (.inl (18, 18 + 4 * i)))]) (m' := (c0_putReckoned_m f i (t2_chargeBy_v (t2_pb (c0_voltsAt_v f i (0 : Int32))) (f (18 + 4 * i) 0)), l)) rfl rfl (fl_bo rfl) rfl ?_
        refine fl_Tq.stp (pc' := 47) (lv' := [some (.inr (.inr (.inl (18, 18 + 4 * i)))), some (.inl (t2_pb (c0_voltsAt_v f i (0 : Int32)))), some (.inl (t2_abs_v ((t2_pb (c0_voltsAt_v f i (0 : Int32))) - (f (18 + 4 * i) 17))))]) (st' := [.inr (.inr (.inl (18, 18 + 4 * i))), .inr (.inr (.inl (18, 18 + 4 * i)))]) (m' := (c0_putReckoned_m f i (t2_chargeBy_v (t2_pb (c0_voltsAt_v f i (0 : Int32))) (f (18 + 4 * i) 0)), l)) rfl rfl (fl_oks_ok ⟨t2_kc0 hi, True.intro⟩) rfl ?_
        refine fl_Tq.gfV (k := 16) (v := (c0_putReckoned_m f i (t2_chargeBy_v (t2_pb (c0_voltsAt_v f i (0 : Int32))) (f (18 + 4 * i) 0))) (18 + 4 * i) 16) rfl (fl_oks_ok ⟨t2_kc0 hi, t2_kc0 hi, True.intro⟩) rfl rfl ?_
        refine fl_Tq.cal rfl rfl (fl_oks_ok ⟨True.intro, t2_kc0 hi, True.intro⟩) rfl ?_
        refine t2_abs_q  ?_
        show fl_Tq _ 15 53 [some (.inr (.inr (.inl (18, 18 + 4 * i)))), some (.inl (t2_pb (c0_voltsAt_v f i (0 : Int32)))), some (.inl (t2_abs_v ((t2_pb (c0_voltsAt_v f i (0 : Int32))) - (f (18 + 4 * i) 17))))] [.inl (t2_abs_v ((c0_putReckoned_m f i (t2_chargeBy_v (t2_pb (c0_voltsAt_v f i (0 : Int32))) (f (18 + 4 * i) 0))) (18 + 4 * i) 16)), .inr (.inr (.inl (18, 18 + 4 * i)))] (c0_putReckoned_m f i (t2_chargeBy_v (t2_pb (c0_voltsAt_v f i (0 : Int32))) (f (18 + 4 * i) 0)), l) _
        refine fl_Tq.stp (pc' := 54) (lv' := [some (.inr (.inr (.inl (18, 18 + 4 * i)))), some (.inl (t2_pb (c0_voltsAt_v f i (0 : Int32)))), some (.inl (t2_abs_v ((t2_pb (c0_voltsAt_v f i (0 : Int32))) - (f (18 + 4 * i) 17))))]) (st' := [.inr (.inl ((t2_abs_v ((c0_putReckoned_m f i (t2_chargeBy_v (t2_pb (c0_voltsAt_v f i (0 : Int32))) (f (18 + 4 * i) 0))) (18 + 4 * i) 16)).toInt64)), .inr (.inr (.inl (18, 18 + 4 * i)))]) (m' := (c0_putReckoned_m f i (t2_chargeBy_v (t2_pb (c0_voltsAt_v f i (0 : Int32))) (f (18 + 4 * i) 0)), l)) rfl rfl (fl_oks_ok ⟨True.intro, t2_kc0 hi, True.intro⟩) rfl ?_
        refine fl_Tq.stp (pc' := 57) (lv' := [some (.inr (.inr (.inl (18, 18 + 4 * i)))), some (.inl (t2_pb (c0_voltsAt_v f i (0 : Int32)))), some (.inl (t2_abs_v ((t2_pb (c0_voltsAt_v f i (0 : Int32))) - (f (18 + 4 * i) 17))))]) (st' := [.inr (.inl (1000 : Int64)), .inr (.inl ((t2_abs_v ((c0_putReckoned_m f i (t2_chargeBy_v (t2_pb (c0_voltsAt_v f i (0 : Int32))) (f (18 + 4 * i) 0))) (18 + 4 * i) 16)).toInt64)), .inr (.inr (.inl (18, 18 + 4 * i)))]) (m' := (c0_putReckoned_m f i (t2_chargeBy_v (t2_pb (c0_voltsAt_v f i (0 : Int32))) (f (18 + 4 * i) 0)), l)) rfl rfl (fl_oks_ok ⟨True.intro, t2_kc0 hi, True.intro⟩) rfl ?_
        refine fl_Tq.stp (pc' := 58) (lv' := [some (.inr (.inr (.inl (18, 18 + 4 * i)))), some (.inl (t2_pb (c0_voltsAt_v f i (0 : Int32)))), some (.inl (t2_abs_v ((t2_pb (c0_voltsAt_v f i (0 : Int32))) - (f (18 + 4 * i) 17))))]) (st' := [.inr (.inl (((t2_abs_v ((c0_putReckoned_m f i (t2_chargeBy_v (t2_pb (c0_voltsAt_v f i (0 : Int32))) (f (18 + 4 * i) 0))) (18 + 4 * i) 16)).toInt64) * (1000 : Int64))), .inr (.inr (.inl (18, 18 + 4 * i)))]) (m' := (c0_putReckoned_m f i (t2_chargeBy_v (t2_pb (c0_voltsAt_v f i (0 : Int32))) (f (18 + 4 * i) 0)), l)) rfl rfl (fl_oks_ok ⟨True.intro, True.intro, t2_kc0 hi, True.intro⟩) rfl ?_
        refine fl_Tq.stp (pc' := 59) (lv' := [some (.inr (.inr (.inl (18, 18 + 4 * i)))), some (.inl (t2_pb (c0_voltsAt_v f i (0 : Int32)))), some (.inl (t2_abs_v ((t2_pb (c0_voltsAt_v f i (0 : Int32))) - (f (18 + 4 * i) 17))))]) (st' := [.inl (t2_abs_v ((t2_pb (c0_voltsAt_v f i (0 : Int32))) - (f (18 + 4 * i) 17))), .inr (.inl (((t2_abs_v ((c0_putReckoned_m f i (t2_chargeBy_v (t2_pb (c0_voltsAt_v f i (0 : Int32))) (f (18 + 4 * i) 0))) (18 + 4 * i) 16)).toInt64) * (1000 : Int64))), .inr (.inr (.inl (18, 18 + 4 * i)))]) (m' := (c0_putReckoned_m f i (t2_chargeBy_v (t2_pb (c0_voltsAt_v f i (0 : Int32))) (f (18 + 4 * i) 0)), l)) rfl rfl (fl_oks_ok ⟨True.intro, t2_kc0 hi, True.intro⟩) rfl ?_
        refine fl_Tq.stp (pc' := 60) (lv' := [some (.inr (.inr (.inl (18, 18 + 4 * i)))), some (.inl (t2_pb (c0_voltsAt_v f i (0 : Int32)))), some (.inl (t2_abs_v ((t2_pb (c0_voltsAt_v f i (0 : Int32))) - (f (18 + 4 * i) 17))))]) (st' := [.inr (.inl ((t2_abs_v ((t2_pb (c0_voltsAt_v f i (0 : Int32))) - (f (18 + 4 * i) 17))).toInt64)), .inr (.inl (((t2_abs_v ((c0_putReckoned_m f i (t2_chargeBy_v (t2_pb (c0_voltsAt_v f i (0 : Int32))) (f (18 + 4 * i) 0))) (18 + 4 * i) 16)).toInt64) * (1000 : Int64))), .inr (.inr (.inl (18, 18 + 4 * i)))]) (m' := (c0_putReckoned_m f i (t2_chargeBy_v (t2_pb (c0_voltsAt_v f i (0 : Int32))) (f (18 + 4 * i) 0)), l)) rfl rfl (fl_oks_ok ⟨True.intro, True.intro, t2_kc0 hi, True.intro⟩) rfl ?_
        refine fl_Tq.stp (pc' := 63) (lv' := [some (.inr (.inr (.inl (18, 18 + 4 * i)))), some (.inl (t2_pb (c0_voltsAt_v f i (0 : Int32)))), some (.inl (t2_abs_v ((t2_pb (c0_voltsAt_v f i (0 : Int32))) - (f (18 + 4 * i) 17))))]) (st' := [.inr (.inl (3600 : Int64)), .inr (.inl ((t2_abs_v ((t2_pb (c0_voltsAt_v f i (0 : Int32))) - (f (18 + 4 * i) 17))).toInt64)), .inr (.inl (((t2_abs_v ((c0_putReckoned_m f i (t2_chargeBy_v (t2_pb (c0_voltsAt_v f i (0 : Int32))) (f (18 + 4 * i) 0))) (18 + 4 * i) 16)).toInt64) * (1000 : Int64))), .inr (.inr (.inl (18, 18 + 4 * i)))]) (m' := (c0_putReckoned_m f i (t2_chargeBy_v (t2_pb (c0_voltsAt_v f i (0 : Int32))) (f (18 + 4 * i) 0)), l)) rfl rfl (fl_oks_ok ⟨True.intro, True.intro, t2_kc0 hi, True.intro⟩) rfl ?_
        refine fl_Tq.stp (pc' := 64) (lv' := [some (.inr (.inr (.inl (18, 18 + 4 * i)))), some (.inl (t2_pb (c0_voltsAt_v f i (0 : Int32)))), some (.inl (t2_abs_v ((t2_pb (c0_voltsAt_v f i (0 : Int32))) - (f (18 + 4 * i) 17))))]) (st' := [.inr (.inl (((t2_abs_v ((t2_pb (c0_voltsAt_v f i (0 : Int32))) - (f (18 + 4 * i) 17))).toInt64) * (3600 : Int64))), .inr (.inl (((t2_abs_v ((c0_putReckoned_m f i (t2_chargeBy_v (t2_pb (c0_voltsAt_v f i (0 : Int32))) (f (18 + 4 * i) 0))) (18 + 4 * i) 16)).toInt64) * (1000 : Int64))), .inr (.inr (.inl (18, 18 + 4 * i)))]) (m' := (c0_putReckoned_m f i (t2_chargeBy_v (t2_pb (c0_voltsAt_v f i (0 : Int32))) (f (18 + 4 * i) 0)), l)) rfl rfl (fl_oks_ok ⟨True.intro, True.intro, True.intro, t2_kc0 hi, True.intro⟩) rfl ?_
        refine fl_Tq.dvJ rfl (fl_oks_ok ⟨True.intro, True.intro, t2_kc0 hi, True.intro⟩) (t2_way_nz h2) ?_
        refine fl_Tq.stp (pc' := 66) (lv' := [some (.inr (.inr (.inl (18, 18 + 4 * i)))), some (.inl (t2_pb (c0_voltsAt_v f i (0 : Int32)))), some (.inl (t2_abs_v ((t2_pb (c0_voltsAt_v f i (0 : Int32))) - (f (18 + 4 * i) 17))))]) (st' := [.inl (((((t2_abs_v ((c0_putReckoned_m f i (t2_chargeBy_v (t2_pb (c0_voltsAt_v f i (0 : Int32))) (f (18 + 4 * i) 0))) (18 + 4 * i) 16)).toInt64) * (1000 : Int64)) / (((t2_abs_v ((t2_pb (c0_voltsAt_v f i (0 : Int32))) - (f (18 + 4 * i) 17))).toInt64) * (3600 : Int64))).toInt32), .inr (.inr (.inl (18, 18 + 4 * i)))]) (m' := (c0_putReckoned_m f i (t2_chargeBy_v (t2_pb (c0_voltsAt_v f i (0 : Int32))) (f (18 + 4 * i) 0)), l)) rfl rfl (fl_oks_ok ⟨True.intro, t2_kc0 hi, True.intro⟩) rfl ?_
        refine fl_Tq.pfV (k := 15) (m' := (fl_row (c0_putReckoned_m f i (t2_chargeBy_v (t2_pb (c0_voltsAt_v f i (0 : Int32))) (f (18 + 4 * i) 0))) (18 + 4 * i) (upd ((c0_putReckoned_m f i (t2_chargeBy_v (t2_pb (c0_voltsAt_v f i (0 : Int32))) (f (18 + 4 * i) 0))) (18 + 4 * i)) 15 (((((t2_abs_v ((c0_putReckoned_m f i (t2_chargeBy_v (t2_pb (c0_voltsAt_v f i (0 : Int32))) (f (18 + 4 * i) 0))) (18 + 4 * i) 16)).toInt64) * (1000 : Int64)) / (((t2_abs_v ((t2_pb (c0_voltsAt_v f i (0 : Int32))) - (f (18 + 4 * i) 17))).toInt64) * (3600 : Int64))).toInt32)), l)) rfl (fl_oks_ok ⟨True.intro, t2_kc0 hi, True.intro⟩) rfl (t2_upn rfl) ?_
        have e0 : (fl_row (c0_putReckoned_m f i (t2_chargeBy_v (t2_pb (c0_voltsAt_v f i (0 : Int32))) (f (18 + 4 * i) 0))) (18 + 4 * i) (upd ((c0_putReckoned_m f i (t2_chargeBy_v (t2_pb (c0_voltsAt_v f i (0 : Int32))) (f (18 + 4 * i) 0))) (18 + 4 * i)) 15 (c0_reckonAtRest_j36_0 f i))) = fl_row (c0_putReckoned_m f i (t2_chargeBy_v (t2_pb (c0_voltsAt_v f i (0 : Int32))) (f (18 + 4 * i) 0))) (18 + 4 * i) (upd ((c0_putReckoned_m f i (t2_chargeBy_v (t2_pb (c0_voltsAt_v f i (0 : Int32))) (f (18 + 4 * i) 0))) (18 + 4 * i)) 15 (((((t2_abs_v ((c0_putReckoned_m f i (t2_chargeBy_v (t2_pb (c0_voltsAt_v f i (0 : Int32))) (f (18 + 4 * i) 0))) (18 + 4 * i) 16)).toInt64) * (1000 : Int64)) / (((t2_abs_v ((t2_pb (c0_voltsAt_v f i (0 : Int32))) - (f (18 + 4 * i) 17))).toInt64) * (3600 : Int64))).toInt32)) := by
          simp only [c0_reckonAtRest_j36_0, if_neg h1, if_neg h2]
        rw [e0] at hJ
        exact hJ
  refine hj7 ?_
  show fl_Tq _ 15 69 [some (.inr (.inr (.inl (18, 18 + 4 * i)))), some (.inl (t2_pb (c0_voltsAt_v f i (0 : Int32)))), some (.inl (t2_abs_v ((t2_pb (c0_voltsAt_v f i (0 : Int32))) - (f (18 + 4 * i) 17))))] [] (fl_row (c0_putReckoned_m f i (t2_chargeBy_v (t2_pb (c0_voltsAt_v f i (0 : Int32))) (f (18 + 4 * i) 0))) (18 + 4 * i) (upd ((c0_putReckoned_m f i (t2_chargeBy_v (t2_pb (c0_voltsAt_v f i (0 : Int32))) (f (18 + 4 * i) 0))) (18 + 4 * i)) 15 (c0_reckonAtRest_j36_0 f i)), l) _
  refine fl_Tq.stp (pc' := 70) (lv' := [some (.inr (.inr (.inl (18, 18 + 4 * i)))), some (.inl (t2_pb (c0_voltsAt_v f i (0 : Int32)))), some (.inl (t2_abs_v ((t2_pb (c0_voltsAt_v f i (0 : Int32))) - (f (18 + 4 * i) 17))))]) (st' := [.inr (.inr (.inl (18, 18 + 4 * i)))]) (m' := (fl_row (c0_putReckoned_m f i (t2_chargeBy_v (t2_pb (c0_voltsAt_v f i (0 : Int32))) (f (18 + 4 * i) 0))) (18 + 4 * i) (upd ((c0_putReckoned_m f i (t2_chargeBy_v (t2_pb (c0_voltsAt_v f i (0 : Int32))) (f (18 + 4 * i) 0))) (18 + 4 * i)) 15 (c0_reckonAtRest_j36_0 f i)), l)) rfl rfl (fl_bo rfl) rfl ?_
  refine fl_Tq.stp (pc' := 71) (lv' := [some (.inr (.inr (.inl (18, 18 + 4 * i)))), some (.inl (t2_pb (c0_voltsAt_v f i (0 : Int32)))), some (.inl (t2_abs_v ((t2_pb (c0_voltsAt_v f i (0 : Int32))) - (f (18 + 4 * i) 17))))]) (st' := [.inl (t2_pb (c0_voltsAt_v f i (0 : Int32))), .inr (.inr (.inl (18, 18 + 4 * i)))]) (m' := (fl_row (c0_putReckoned_m f i (t2_chargeBy_v (t2_pb (c0_voltsAt_v f i (0 : Int32))) (f (18 + 4 * i) 0))) (18 + 4 * i) (upd ((c0_putReckoned_m f i (t2_chargeBy_v (t2_pb (c0_voltsAt_v f i (0 : Int32))) (f (18 + 4 * i) 0))) (18 + 4 * i)) 15 (c0_reckonAtRest_j36_0 f i)), l)) rfl rfl (fl_oks_ok ⟨t2_kc0 hi, True.intro⟩) rfl ?_
  refine fl_Tq.pfV (k := 17) (m' := (fl_row (c0_putReckoned_m f i (t2_chargeBy_v (t2_pb (c0_voltsAt_v f i (0 : Int32))) (f (18 + 4 * i) 0))) (18 + 4 * i) (upd (upd ((c0_putReckoned_m f i (t2_chargeBy_v (t2_pb (c0_voltsAt_v f i (0 : Int32))) (f (18 + 4 * i) 0))) (18 + 4 * i)) 15 (c0_reckonAtRest_j36_0 f i)) 17 (t2_pb (c0_voltsAt_v f i (0 : Int32)))), l)) rfl (fl_oks_ok ⟨True.intro, t2_kc0 hi, True.intro⟩) rfl (t2_upr) ?_
  refine fl_Tq.stp (pc' := 75) (lv' := [some (.inr (.inr (.inl (18, 18 + 4 * i)))), some (.inl (t2_pb (c0_voltsAt_v f i (0 : Int32)))), some (.inl (t2_abs_v ((t2_pb (c0_voltsAt_v f i (0 : Int32))) - (f (18 + 4 * i) 17))))]) (st' := [.inr (.inr (.inl (18, 18 + 4 * i)))]) (m' := (fl_row (c0_putReckoned_m f i (t2_chargeBy_v (t2_pb (c0_voltsAt_v f i (0 : Int32))) (f (18 + 4 * i) 0))) (18 + 4 * i) (upd (upd ((c0_putReckoned_m f i (t2_chargeBy_v (t2_pb (c0_voltsAt_v f i (0 : Int32))) (f (18 + 4 * i) 0))) (18 + 4 * i)) 15 (c0_reckonAtRest_j36_0 f i)) 17 (t2_pb (c0_voltsAt_v f i (0 : Int32)))), l)) rfl rfl (fl_bo rfl) rfl ?_
  refine fl_Tq.cI (c := (0 : Int32)) rfl (by decide +kernel) (fl_oks_ok ⟨t2_kc0 hi, True.intro⟩) ?_
  refine fl_Tq.pfV (k := 16) (m' := (fl_row (c0_putReckoned_m f i (t2_chargeBy_v (t2_pb (c0_voltsAt_v f i (0 : Int32))) (f (18 + 4 * i) 0))) (18 + 4 * i) (upd (upd (upd ((c0_putReckoned_m f i (t2_chargeBy_v (t2_pb (c0_voltsAt_v f i (0 : Int32))) (f (18 + 4 * i) 0))) (18 + 4 * i)) 15 (c0_reckonAtRest_j36_0 f i)) 17 (t2_pb (c0_voltsAt_v f i (0 : Int32)))) 16 (0 : Int32)), l)) rfl (fl_oks_ok ⟨True.intro, t2_kc0 hi, True.intro⟩) rfl (t2_upr) ?_
  exact fl_Tq.ret rfl rfl rfl k
noncomputable def c0_warningBits_j17_0 (f : t2_F) (i : Nat) (x y : Int32) : Int32 := if ((f 4 0) - y).toInt < (c0_voltsAt_v f i x).toInt then (1 : Int32) else (0 : Int32)
noncomputable def c0_warningBits_j39_0 (f : t2_F) (i : Nat) (x y : Int32) : Int32 := if (c0_voltsAt_v f i x).toInt < ((f 4 1) + y).toInt then (2 : Int32) else (0 : Int32)
noncomputable def c0_warningBits_j64_0 (f : t2_F) (i : Nat) (x y : Int32) : Int32 := if ((f 4 2) - y).toInt < (f (18 + 4 * i) 6).toInt then (4 : Int32) else (0 : Int32)
noncomputable def c0_warningBits_j89_0 (f : t2_F) (i : Nat) (x y : Int32) : Int32 := if (f (18 + 4 * i) 6).toInt < ((f 4 3) + y).toInt then (8 : Int32) else (0 : Int32)
noncomputable def c0_warningBits_v (f : t2_F) (i : Nat) (x y : Int32) : Int32 := (((c0_warningBits_j17_0 f i x y) ||| (c0_warningBits_j39_0 f i x y)) ||| (c0_warningBits_j64_0 f i x y)) ||| (c0_warningBits_j89_0 f i x y)
theorem c0_warningBits_q {L : Nat} {xs : Nat → Int32} {f : t2_F} {l : t2_L} {Q : Option fl_V → fl_M → Prop} {i : Nat} {x y : Int32} (hi : i < 16) (k : Q (some (.inl (c0_warningBits_v f i x y))) (f, l)) : fl_Tq (pw_P L xs) 17 0 (fl_args (am_mxl (pw_P L xs) 17) [.inr (.inr (.inl (18, 18 + 4 * i))), .inl x, .inr (.inr (.inl (3, 3))), .inl y]) [] (f, l) Q := by
  refine fl_Tq.stp (pc' := 1) (lv' := [some (.inr (.inr (.inl (18, 18 + 4 * i)))), some (.inl x), some (.inr (.inr (.inl (3, 3)))), some (.inl y), none, none]) (st' := [.inr (.inr (.inl (18, 18 + 4 * i)))]) (m' := (f, l)) rfl rfl (fl_bo rfl) rfl ?_
  refine fl_Tq.stp (pc' := 2) (lv' := [some (.inr (.inr (.inl (18, 18 + 4 * i)))), some (.inl x), some (.inr (.inr (.inl (3, 3)))), some (.inl y), none, none]) (st' := [.inl x, .inr (.inr (.inl (18, 18 + 4 * i)))]) (m' := (f, l)) rfl rfl (fl_oks_ok ⟨t2_kc0 hi, True.intro⟩) rfl ?_
  refine fl_Tq.cal rfl rfl (fl_oks_ok ⟨True.intro, t2_kc0 hi, True.intro⟩) rfl ?_
  refine c0_voltsAt_q hi ?_
  show fl_Tq _ 17 5 [some (.inr (.inr (.inl (18, 18 + 4 * i)))), some (.inl x), some (.inr (.inr (.inl (3, 3)))), some (.inl y), none, none] [.inl (c0_voltsAt_v f i x)] (f, l) _
  refine fl_Tq.stp (pc' := 7) (lv' := [some (.inr (.inr (.inl (18, 18 + 4 * i)))), some (.inl x), some (.inr (.inr (.inl (3, 3)))), some (.inl y), some (.inl (c0_voltsAt_v f i x)), none]) (st' := []) (m' := (f, l)) rfl rfl (fl_bo rfl) rfl ?_
  refine fl_Tq.stp (pc' := 9) (lv' := [some (.inr (.inr (.inl (18, 18 + 4 * i)))), some (.inl x), some (.inr (.inr (.inl (3, 3)))), some (.inl y), some (.inl (c0_voltsAt_v f i x)), none]) (st' := [.inl (c0_voltsAt_v f i x)]) (m' := (f, l)) rfl rfl (fl_bo rfl) rfl ?_
  refine fl_Tq.stp (pc' := 10) (lv' := [some (.inr (.inr (.inl (18, 18 + 4 * i)))), some (.inl x), some (.inr (.inr (.inl (3, 3)))), some (.inl y), some (.inl (c0_voltsAt_v f i x)), none]) (st' := [.inr (.inr (.inl (3, 3))), .inl (c0_voltsAt_v f i x)]) (m' := (f, l)) rfl rfl (fl_bo rfl) rfl ?_
  refine fl_Tq.stp (pc' := 13) (lv' := [some (.inr (.inr (.inl (18, 18 + 4 * i)))), some (.inl x), some (.inr (.inr (.inl (3, 3)))), some (.inl y), some (.inl (c0_voltsAt_v f i x)), none]) (st' := [.inr (.inr (.inl (4, 4))), .inl (c0_voltsAt_v f i x)]) (m' := (f, l)) rfl rfl (fl_bo rfl) rfl ?_
  refine fl_Tq.cI (c := (0 : Int32)) rfl (by decide +kernel) (fl_bo rfl) ?_
  refine fl_Tq.ldV (p := 4) (τ := 4) (n := 30) (z := (0, 0, 0)) (k := 0) (v := f 4 0) rfl (fl_bo rfl) rfl (by decide +kernel) (by decide) rfl ?_
  refine fl_Tq.stp (pc' := 16) (lv' := [some (.inr (.inr (.inl (18, 18 + 4 * i)))), some (.inl x), some (.inr (.inr (.inl (3, 3)))), some (.inl y), some (.inl (c0_voltsAt_v f i x)), none]) (st' := [.inl y, .inl (f 4 0), .inl (c0_voltsAt_v f i x)]) (m' := (f, l)) rfl rfl (fl_bo rfl) rfl ?_
  refine fl_Tq.stp (pc' := 17) (lv' := [some (.inr (.inr (.inl (18, 18 + 4 * i)))), some (.inl x), some (.inr (.inr (.inl (3, 3)))), some (.inl y), some (.inl (c0_voltsAt_v f i x)), none]) (st' := [.inl ((f 4 0) - y), .inl (c0_voltsAt_v f i x)]) (m' := (f, l)) rfl rfl (fl_bo rfl) rfl ?_
  have hj8 : fl_Tq (pw_P L xs) 17 25 [some (.inr (.inr (.inl (18, 18 + 4 * i)))), some (.inl x), some (.inr (.inr (.inl (3, 3)))), some (.inl y), some (.inl (c0_voltsAt_v f i x)), none] [.inl (c0_warningBits_j17_0 f i x y)] (f, l) Q → fl_Tq (pw_P L xs) 17 17 [some (.inr (.inr (.inl (18, 18 + 4 * i)))), some (.inl x), some (.inr (.inr (.inl (3, 3)))), some (.inl y), some (.inl (c0_voltsAt_v f i x)), none] [.inl ((f 4 0) - y), .inl (c0_voltsAt_v f i x)] (f, l) Q := by
    intro hJ
    by_cases h1 : ((f 4 0) - y).toInt < (c0_voltsAt_v f i x).toInt
    · refine fl_Tq.jf rfl (fl_bo rfl) (c2_le_f h1) rfl ?_
      refine fl_Tq.cI (c := (1 : Int32)) rfl (by decide +kernel) (fl_bo rfl) ?_
      refine fl_Tq.stp (pc' := 25) (lv' := [some (.inr (.inr (.inl (18, 18 + 4 * i)))), some (.inl x), some (.inr (.inr (.inl (3, 3)))), some (.inl y), some (.inl (c0_voltsAt_v f i x)), none]) (st' := [.inl (1 : Int32)]) (m' := (f, l)) rfl rfl (fl_bo rfl) rfl ?_
      have e0 : (c0_warningBits_j17_0 f i x y) = (1 : Int32) := by simp only [c0_warningBits_j17_0, if_pos h1]
      rw [e0] at hJ
      exact hJ
    · refine fl_Tq.jt rfl (fl_bo rfl) (c2_le_t h1) rfl ?_
      refine fl_Tq.cI (c := (0 : Int32)) rfl (by decide +kernel) (fl_bo rfl) ?_
      have e0 : (c0_warningBits_j17_0 f i x y) = (0 : Int32) := by simp only [c0_warningBits_j17_0, if_neg h1]
      rw [e0] at hJ
      exact hJ
  refine hj8 ?_
  show fl_Tq _ 17 25 [some (.inr (.inr (.inl (18, 18 + 4 * i)))), some (.inl x), some (.inr (.inr (.inl (3, 3)))), some (.inl y), some (.inl (c0_voltsAt_v f i x)), none] [.inl (c0_warningBits_j17_0 f i x y)] (f, l) _
  refine fl_Tq.stp (pc' := 27) (lv' := [some (.inr (.inr (.inl (18, 18 + 4 * i)))), some (.inl x), some (.inr (.inr (.inl (3, 3)))), some (.inl y), some (.inl (c0_voltsAt_v f i x)), some (.inl (c0_warningBits_j17_0 f i x y))]) (st' := []) (m' := (f, l)) rfl rfl (fl_bo rfl) rfl ?_
  refine fl_Tq.stp (pc' := 29) (lv' := [some (.inr (.inr (.inl (18, 18 + 4 * i)))), some (.inl x), some (.inr (.inr (.inl (3, 3)))), some (.inl y), some (.inl (c0_voltsAt_v f i x)), some (.inl (c0_warningBits_j17_0 f i x y))]) (st' := [.inl (c0_warningBits_j17_0 f i x y)]) (m' := (f, l)) rfl rfl (fl_bo rfl) rfl ?_
  refine fl_Tq.stp (pc' := 31) (lv' := [some (.inr (.inr (.inl (18, 18 + 4 * i)))), some (.inl x), some (.inr (.inr (.inl (3, 3)))), some (.inl y), some (.inl (c0_voltsAt_v f i x)), some (.inl (c0_warningBits_j17_0 f i x y))]) (st' := [.inl (c0_voltsAt_v f i x), .inl (c0_warningBits_j17_0 f i x y)]) (m' := (f, l)) rfl rfl (fl_bo rfl) rfl ?_
  refine fl_Tq.stp (pc' := 32) (lv' := [some (.inr (.inr (.inl (18, 18 + 4 * i)))), some (.inl x), some (.inr (.inr (.inl (3, 3)))), some (.inl y), some (.inl (c0_voltsAt_v f i x)), some (.inl (c0_warningBits_j17_0 f i x y))]) (st' := [.inr (.inr (.inl (3, 3))), .inl (c0_voltsAt_v f i x), .inl (c0_warningBits_j17_0 f i x y)]) (m' := (f, l)) rfl rfl (fl_bo rfl) rfl ?_
  refine fl_Tq.stp (pc' := 35) (lv' := [some (.inr (.inr (.inl (18, 18 + 4 * i)))), some (.inl x), some (.inr (.inr (.inl (3, 3)))), some (.inl y), some (.inl (c0_voltsAt_v f i x)), some (.inl (c0_warningBits_j17_0 f i x y))]) (st' := [.inr (.inr (.inl (4, 4))), .inl (c0_voltsAt_v f i x), .inl (c0_warningBits_j17_0 f i x y)]) (m' := (f, l)) rfl rfl (fl_bo rfl) rfl ?_
  refine fl_Tq.cI (c := (1 : Int32)) rfl (by decide +kernel) (fl_bo rfl) ?_
  refine fl_Tq.ldV (p := 4) (τ := 4) (n := 30) (z := (0, 0, 0)) (k := 1) (v := f 4 1) rfl (fl_bo rfl) rfl (by decide +kernel) (by decide) rfl ?_
  refine fl_Tq.stp (pc' := 38) (lv' := [some (.inr (.inr (.inl (18, 18 + 4 * i)))), some (.inl x), some (.inr (.inr (.inl (3, 3)))), some (.inl y), some (.inl (c0_voltsAt_v f i x)), some (.inl (c0_warningBits_j17_0 f i x y))]) (st' := [.inl y, .inl (f 4 1), .inl (c0_voltsAt_v f i x), .inl (c0_warningBits_j17_0 f i x y)]) (m' := (f, l)) rfl rfl (fl_bo rfl) rfl ?_
  refine fl_Tq.stp (pc' := 39) (lv' := [some (.inr (.inr (.inl (18, 18 + 4 * i)))), some (.inl x), some (.inr (.inr (.inl (3, 3)))), some (.inl y), some (.inl (c0_voltsAt_v f i x)), some (.inl (c0_warningBits_j17_0 f i x y))]) (st' := [.inl ((f 4 1) + y), .inl (c0_voltsAt_v f i x), .inl (c0_warningBits_j17_0 f i x y)]) (m' := (f, l)) rfl rfl (fl_bo rfl) rfl ?_
  have hj9 : fl_Tq (pw_P L xs) 17 47 [some (.inr (.inr (.inl (18, 18 + 4 * i)))), some (.inl x), some (.inr (.inr (.inl (3, 3)))), some (.inl y), some (.inl (c0_voltsAt_v f i x)), some (.inl (c0_warningBits_j17_0 f i x y))] [.inl (c0_warningBits_j39_0 f i x y), .inl (c0_warningBits_j17_0 f i x y)] (f, l) Q → fl_Tq (pw_P L xs) 17 39 [some (.inr (.inr (.inl (18, 18 + 4 * i)))), some (.inl x), some (.inr (.inr (.inl (3, 3)))), some (.inl y), some (.inl (c0_voltsAt_v f i x)), some (.inl (c0_warningBits_j17_0 f i x y))] [.inl ((f 4 1) + y), .inl (c0_voltsAt_v f i x), .inl (c0_warningBits_j17_0 f i x y)] (f, l) Q := by
    intro hJ
    by_cases h2 : (c0_voltsAt_v f i x).toInt < ((f 4 1) + y).toInt
    · refine fl_Tq.jf rfl (fl_bo rfl) (c2_ge_f h2) rfl ?_
      refine fl_Tq.cI (c := (2 : Int32)) rfl (by decide +kernel) (fl_bo rfl) ?_
      refine fl_Tq.stp (pc' := 47) (lv' := [some (.inr (.inr (.inl (18, 18 + 4 * i)))), some (.inl x), some (.inr (.inr (.inl (3, 3)))), some (.inl y), some (.inl (c0_voltsAt_v f i x)), some (.inl (c0_warningBits_j17_0 f i x y))]) (st' := [.inl (2 : Int32), .inl (c0_warningBits_j17_0 f i x y)]) (m' := (f, l)) rfl rfl (fl_bo rfl) rfl ?_
      have e0 : (c0_warningBits_j39_0 f i x y) = (2 : Int32) := by simp only [c0_warningBits_j39_0, if_pos h2]
      rw [e0] at hJ
      exact hJ
    · refine fl_Tq.jt rfl (fl_bo rfl) (c2_ge_t h2) rfl ?_
      refine fl_Tq.cI (c := (0 : Int32)) rfl (by decide +kernel) (fl_bo rfl) ?_
      have e0 : (c0_warningBits_j39_0 f i x y) = (0 : Int32) := by simp only [c0_warningBits_j39_0, if_neg h2]
      rw [e0] at hJ
      exact hJ
  refine hj9 ?_
  show fl_Tq _ 17 47 [some (.inr (.inr (.inl (18, 18 + 4 * i)))), some (.inl x), some (.inr (.inr (.inl (3, 3)))), some (.inl y), some (.inl (c0_voltsAt_v f i x)), some (.inl (c0_warningBits_j17_0 f i x y))] [.inl (c0_warningBits_j39_0 f i x y), .inl (c0_warningBits_j17_0 f i x y)] (f, l) _
  refine fl_Tq.stp (pc' := 48) (lv' := [some (.inr (.inr (.inl (18, 18 + 4 * i)))), some (.inl x), some (.inr (.inr (.inl (3, 3)))), some (.inl y), some (.inl (c0_voltsAt_v f i x)), some (.inl (c0_warningBits_j17_0 f i x y))]) (st' := [.inl ((c0_warningBits_j17_0 f i x y) ||| (c0_warningBits_j39_0 f i x y))]) (m' := (f, l)) rfl rfl (fl_bo rfl) rfl ?_
  refine fl_Tq.stp (pc' := 50) (lv' := [some (.inr (.inr (.inl (18, 18 + 4 * i)))), some (.inl x), some (.inr (.inr (.inl (3, 3)))), some (.inl y), some (.inl (c0_voltsAt_v f i x)), some (.inl ((c0_warningBits_j17_0 f i x y) ||| (c0_warningBits_j39_0 f i x y)))]) (st' := []) (m' := (f, l)) rfl rfl (fl_bo rfl) rfl ?_
  refine fl_Tq.stp (pc' := 52) (lv' := [some (.inr (.inr (.inl (18, 18 + 4 * i)))), some (.inl x), some (.inr (.inr (.inl (3, 3)))), some (.inl y), some (.inl (c0_voltsAt_v f i x)), some (.inl ((c0_warningBits_j17_0 f i x y) ||| (c0_warningBits_j39_0 f i x y)))]) (st' := [.inl ((c0_warningBits_j17_0 f i x y) ||| (c0_warningBits_j39_0 f i x y))]) (m' := (f, l)) rfl rfl (fl_bo rfl) rfl ?_
  refine fl_Tq.stp (pc' := 53) (lv' := [some (.inr (.inr (.inl (18, 18 + 4 * i)))), some (.inl x), some (.inr (.inr (.inl (3, 3)))), some (.inl y), some (.inl (c0_voltsAt_v f i x)), some (.inl ((c0_warningBits_j17_0 f i x y) ||| (c0_warningBits_j39_0 f i x y)))]) (st' := [.inr (.inr (.inl (18, 18 + 4 * i))), .inl ((c0_warningBits_j17_0 f i x y) ||| (c0_warningBits_j39_0 f i x y))]) (m' := (f, l)) rfl rfl (fl_bo rfl) rfl ?_
  refine fl_Tq.gfV (k := 6) (v := f (18 + 4 * i) 6) rfl (fl_oks_ok ⟨t2_kc0 hi, True.intro, True.intro⟩) rfl rfl ?_
  refine fl_Tq.stp (pc' := 57) (lv' := [some (.inr (.inr (.inl (18, 18 + 4 * i)))), some (.inl x), some (.inr (.inr (.inl (3, 3)))), some (.inl y), some (.inl (c0_voltsAt_v f i x)), some (.inl ((c0_warningBits_j17_0 f i x y) ||| (c0_warningBits_j39_0 f i x y)))]) (st' := [.inr (.inr (.inl (3, 3))), .inl (f (18 + 4 * i) 6), .inl ((c0_warningBits_j17_0 f i x y) ||| (c0_warningBits_j39_0 f i x y))]) (m' := (f, l)) rfl rfl (fl_bo rfl) rfl ?_
  refine fl_Tq.stp (pc' := 60) (lv' := [some (.inr (.inr (.inl (18, 18 + 4 * i)))), some (.inl x), some (.inr (.inr (.inl (3, 3)))), some (.inl y), some (.inl (c0_voltsAt_v f i x)), some (.inl ((c0_warningBits_j17_0 f i x y) ||| (c0_warningBits_j39_0 f i x y)))]) (st' := [.inr (.inr (.inl (4, 4))), .inl (f (18 + 4 * i) 6), .inl ((c0_warningBits_j17_0 f i x y) ||| (c0_warningBits_j39_0 f i x y))]) (m' := (f, l)) rfl rfl (fl_bo rfl) rfl ?_
  refine fl_Tq.cI (c := (2 : Int32)) rfl (by decide +kernel) (fl_bo rfl) ?_
  refine fl_Tq.ldV (p := 4) (τ := 4) (n := 30) (z := (0, 0, 0)) (k := 2) (v := f 4 2) rfl (fl_bo rfl) rfl (by decide +kernel) (by decide) rfl ?_
  refine fl_Tq.stp (pc' := 63) (lv' := [some (.inr (.inr (.inl (18, 18 + 4 * i)))), some (.inl x), some (.inr (.inr (.inl (3, 3)))), some (.inl y), some (.inl (c0_voltsAt_v f i x)), some (.inl ((c0_warningBits_j17_0 f i x y) ||| (c0_warningBits_j39_0 f i x y)))]) (st' := [.inl y, .inl (f 4 2), .inl (f (18 + 4 * i) 6), .inl ((c0_warningBits_j17_0 f i x y) ||| (c0_warningBits_j39_0 f i x y))]) (m' := (f, l)) rfl rfl (fl_bo rfl) rfl ?_
  refine fl_Tq.stp (pc' := 64) (lv' := [some (.inr (.inr (.inl (18, 18 + 4 * i)))), some (.inl x), some (.inr (.inr (.inl (3, 3)))), some (.inl y), some (.inl (c0_voltsAt_v f i x)), some (.inl ((c0_warningBits_j17_0 f i x y) ||| (c0_warningBits_j39_0 f i x y)))]) (st' := [.inl ((f 4 2) - y), .inl (f (18 + 4 * i) 6), .inl ((c0_warningBits_j17_0 f i x y) ||| (c0_warningBits_j39_0 f i x y))]) (m' := (f, l)) rfl rfl (fl_bo rfl) rfl ?_
  have hj10 : fl_Tq (pw_P L xs) 17 72 [some (.inr (.inr (.inl (18, 18 + 4 * i)))), some (.inl x), some (.inr (.inr (.inl (3, 3)))), some (.inl y), some (.inl (c0_voltsAt_v f i x)), some (.inl ((c0_warningBits_j17_0 f i x y) ||| (c0_warningBits_j39_0 f i x y)))] [.inl (c0_warningBits_j64_0 f i x y), .inl ((c0_warningBits_j17_0 f i x y) ||| (c0_warningBits_j39_0 f i x y))] (f, l) Q → fl_Tq (pw_P L xs) 17 64 [some (.inr (.inr (.inl (18, 18 + 4 * i)))), some (.inl x), some (.inr (.inr (.inl (3, 3)))), some (.inl y), some (.inl (c0_voltsAt_v f i x)), some (.inl ((c0_warningBits_j17_0 f i x y) ||| (c0_warningBits_j39_0 f i x y)))] [.inl ((f 4 2) - y), .inl (f (18 + 4 * i) 6), .inl ((c0_warningBits_j17_0 f i x y) ||| (c0_warningBits_j39_0 f i x y))] (f, l) Q := by
    intro hJ
    by_cases h3 : ((f 4 2) - y).toInt < (f (18 + 4 * i) 6).toInt
    · refine fl_Tq.jf rfl (fl_bo rfl) (c2_le_f h3) rfl ?_
      refine fl_Tq.cI (c := (4 : Int32)) rfl (by decide +kernel) (fl_bo rfl) ?_
      refine fl_Tq.stp (pc' := 72) (lv' := [some (.inr (.inr (.inl (18, 18 + 4 * i)))), some (.inl x), some (.inr (.inr (.inl (3, 3)))), some (.inl y), some (.inl (c0_voltsAt_v f i x)), some (.inl ((c0_warningBits_j17_0 f i x y) ||| (c0_warningBits_j39_0 f i x y)))]) (st' := [.inl (4 : Int32), .inl ((c0_warningBits_j17_0 f i x y) ||| (c0_warningBits_j39_0 f i x y))]) (m' := (f, l)) rfl rfl (fl_bo rfl) rfl ?_
      have e0 : (c0_warningBits_j64_0 f i x y) = (4 : Int32) := by simp only [c0_warningBits_j64_0, if_pos h3]
      rw [e0] at hJ
      exact hJ
    · refine fl_Tq.jt rfl (fl_bo rfl) (c2_le_t h3) rfl ?_
      refine fl_Tq.cI (c := (0 : Int32)) rfl (by decide +kernel) (fl_bo rfl) ?_
      have e0 : (c0_warningBits_j64_0 f i x y) = (0 : Int32) := by simp only [c0_warningBits_j64_0, if_neg h3]
      rw [e0] at hJ
      exact hJ
  refine hj10 ?_
  show fl_Tq _ 17 72 [some (.inr (.inr (.inl (18, 18 + 4 * i)))), some (.inl x), some (.inr (.inr (.inl (3, 3)))), some (.inl y), some (.inl (c0_voltsAt_v f i x)), some (.inl ((c0_warningBits_j17_0 f i x y) ||| (c0_warningBits_j39_0 f i x y)))] [.inl (c0_warningBits_j64_0 f i x y), .inl ((c0_warningBits_j17_0 f i x y) ||| (c0_warningBits_j39_0 f i x y))] (f, l) _
  refine fl_Tq.stp (pc' := 73) (lv' := [some (.inr (.inr (.inl (18, 18 + 4 * i)))), some (.inl x), some (.inr (.inr (.inl (3, 3)))), some (.inl y), some (.inl (c0_voltsAt_v f i x)), some (.inl ((c0_warningBits_j17_0 f i x y) ||| (c0_warningBits_j39_0 f i x y)))]) (st' := [.inl (((c0_warningBits_j17_0 f i x y) ||| (c0_warningBits_j39_0 f i x y)) ||| (c0_warningBits_j64_0 f i x y))]) (m' := (f, l)) rfl rfl (fl_bo rfl) rfl ?_
  refine fl_Tq.stp (pc' := 75) (lv' := [some (.inr (.inr (.inl (18, 18 + 4 * i)))), some (.inl x), some (.inr (.inr (.inl (3, 3)))), some (.inl y), some (.inl (c0_voltsAt_v f i x)), some (.inl (((c0_warningBits_j17_0 f i x y) ||| (c0_warningBits_j39_0 f i x y)) ||| (c0_warningBits_j64_0 f i x y)))]) (st' := []) (m' := (f, l)) rfl rfl (fl_bo rfl) rfl ?_
  refine fl_Tq.stp (pc' := 77) (lv' := [some (.inr (.inr (.inl (18, 18 + 4 * i)))), some (.inl x), some (.inr (.inr (.inl (3, 3)))), some (.inl y), some (.inl (c0_voltsAt_v f i x)), some (.inl (((c0_warningBits_j17_0 f i x y) ||| (c0_warningBits_j39_0 f i x y)) ||| (c0_warningBits_j64_0 f i x y)))]) (st' := [.inl (((c0_warningBits_j17_0 f i x y) ||| (c0_warningBits_j39_0 f i x y)) ||| (c0_warningBits_j64_0 f i x y))]) (m' := (f, l)) rfl rfl (fl_bo rfl) rfl ?_
  refine fl_Tq.stp (pc' := 78) (lv' := [some (.inr (.inr (.inl (18, 18 + 4 * i)))), some (.inl x), some (.inr (.inr (.inl (3, 3)))), some (.inl y), some (.inl (c0_voltsAt_v f i x)), some (.inl (((c0_warningBits_j17_0 f i x y) ||| (c0_warningBits_j39_0 f i x y)) ||| (c0_warningBits_j64_0 f i x y)))]) (st' := [.inr (.inr (.inl (18, 18 + 4 * i))), .inl (((c0_warningBits_j17_0 f i x y) ||| (c0_warningBits_j39_0 f i x y)) ||| (c0_warningBits_j64_0 f i x y))]) (m' := (f, l)) rfl rfl (fl_bo rfl) rfl ?_
  refine fl_Tq.gfV (k := 6) (v := f (18 + 4 * i) 6) rfl (fl_oks_ok ⟨t2_kc0 hi, True.intro, True.intro⟩) rfl rfl ?_
  refine fl_Tq.stp (pc' := 82) (lv' := [some (.inr (.inr (.inl (18, 18 + 4 * i)))), some (.inl x), some (.inr (.inr (.inl (3, 3)))), some (.inl y), some (.inl (c0_voltsAt_v f i x)), some (.inl (((c0_warningBits_j17_0 f i x y) ||| (c0_warningBits_j39_0 f i x y)) ||| (c0_warningBits_j64_0 f i x y)))]) (st' := [.inr (.inr (.inl (3, 3))), .inl (f (18 + 4 * i) 6), .inl (((c0_warningBits_j17_0 f i x y) ||| (c0_warningBits_j39_0 f i x y)) ||| (c0_warningBits_j64_0 f i x y))]) (m' := (f, l)) rfl rfl (fl_bo rfl) rfl ?_
  refine fl_Tq.stp (pc' := 85) (lv' := [some (.inr (.inr (.inl (18, 18 + 4 * i)))), some (.inl x), some (.inr (.inr (.inl (3, 3)))), some (.inl y), some (.inl (c0_voltsAt_v f i x)), some (.inl (((c0_warningBits_j17_0 f i x y) ||| (c0_warningBits_j39_0 f i x y)) ||| (c0_warningBits_j64_0 f i x y)))]) (st' := [.inr (.inr (.inl (4, 4))), .inl (f (18 + 4 * i) 6), .inl (((c0_warningBits_j17_0 f i x y) ||| (c0_warningBits_j39_0 f i x y)) ||| (c0_warningBits_j64_0 f i x y))]) (m' := (f, l)) rfl rfl (fl_bo rfl) rfl ?_
  refine fl_Tq.cI (c := (3 : Int32)) rfl (by decide +kernel) (fl_bo rfl) ?_
  refine fl_Tq.ldV (p := 4) (τ := 4) (n := 30) (z := (0, 0, 0)) (k := 3) (v := f 4 3) rfl (fl_bo rfl) rfl (by decide +kernel) (by decide) rfl ?_
  refine fl_Tq.stp (pc' := 88) (lv' := [some (.inr (.inr (.inl (18, 18 + 4 * i)))), some (.inl x), some (.inr (.inr (.inl (3, 3)))), some (.inl y), some (.inl (c0_voltsAt_v f i x)), some (.inl (((c0_warningBits_j17_0 f i x y) ||| (c0_warningBits_j39_0 f i x y)) ||| (c0_warningBits_j64_0 f i x y)))]) (st' := [.inl y, .inl (f 4 3), .inl (f (18 + 4 * i) 6), .inl (((c0_warningBits_j17_0 f i x y) ||| (c0_warningBits_j39_0 f i x y)) ||| (c0_warningBits_j64_0 f i x y))]) (m' := (f, l)) rfl rfl (fl_bo rfl) rfl ?_
  refine fl_Tq.stp (pc' := 89) (lv' := [some (.inr (.inr (.inl (18, 18 + 4 * i)))), some (.inl x), some (.inr (.inr (.inl (3, 3)))), some (.inl y), some (.inl (c0_voltsAt_v f i x)), some (.inl (((c0_warningBits_j17_0 f i x y) ||| (c0_warningBits_j39_0 f i x y)) ||| (c0_warningBits_j64_0 f i x y)))]) (st' := [.inl ((f 4 3) + y), .inl (f (18 + 4 * i) 6), .inl (((c0_warningBits_j17_0 f i x y) ||| (c0_warningBits_j39_0 f i x y)) ||| (c0_warningBits_j64_0 f i x y))]) (m' := (f, l)) rfl rfl (fl_bo rfl) rfl ?_
  have hj11 : fl_Tq (pw_P L xs) 17 98 [some (.inr (.inr (.inl (18, 18 + 4 * i)))), some (.inl x), some (.inr (.inr (.inl (3, 3)))), some (.inl y), some (.inl (c0_voltsAt_v f i x)), some (.inl (((c0_warningBits_j17_0 f i x y) ||| (c0_warningBits_j39_0 f i x y)) ||| (c0_warningBits_j64_0 f i x y)))] [.inl (c0_warningBits_j89_0 f i x y), .inl (((c0_warningBits_j17_0 f i x y) ||| (c0_warningBits_j39_0 f i x y)) ||| (c0_warningBits_j64_0 f i x y))] (f, l) Q → fl_Tq (pw_P L xs) 17 89 [some (.inr (.inr (.inl (18, 18 + 4 * i)))), some (.inl x), some (.inr (.inr (.inl (3, 3)))), some (.inl y), some (.inl (c0_voltsAt_v f i x)), some (.inl (((c0_warningBits_j17_0 f i x y) ||| (c0_warningBits_j39_0 f i x y)) ||| (c0_warningBits_j64_0 f i x y)))] [.inl ((f 4 3) + y), .inl (f (18 + 4 * i) 6), .inl (((c0_warningBits_j17_0 f i x y) ||| (c0_warningBits_j39_0 f i x y)) ||| (c0_warningBits_j64_0 f i x y))] (f, l) Q := by
    intro hJ
    by_cases h4 : (f (18 + 4 * i) 6).toInt < ((f 4 3) + y).toInt
    · refine fl_Tq.jf rfl (fl_bo rfl) (c2_ge_f h4) rfl ?_
      refine fl_Tq.cB (c := (8 : Int32)) rfl (by decide +kernel) (fl_bo rfl) ?_
      refine fl_Tq.stp (pc' := 98) (lv' := [some (.inr (.inr (.inl (18, 18 + 4 * i)))), some (.inl x), some (.inr (.inr (.inl (3, 3)))), some (.inl y), some (.inl (c0_voltsAt_v f i x)), some (.inl (((c0_warningBits_j17_0 f i x y) ||| (c0_warningBits_j39_0 f i x y)) ||| (c0_warningBits_j64_0 f i x y)))]) (st' := [.inl (8 : Int32), .inl (((c0_warningBits_j17_0 f i x y) ||| (c0_warningBits_j39_0 f i x y)) ||| (c0_warningBits_j64_0 f i x y))]) (m' := (f, l)) rfl rfl (fl_bo rfl) rfl ?_
      have e0 : (c0_warningBits_j89_0 f i x y) = (8 : Int32) := by simp only [c0_warningBits_j89_0, if_pos h4]
      rw [e0] at hJ
      exact hJ
    · refine fl_Tq.jt rfl (fl_bo rfl) (c2_ge_t h4) rfl ?_
      refine fl_Tq.cI (c := (0 : Int32)) rfl (by decide +kernel) (fl_bo rfl) ?_
      have e0 : (c0_warningBits_j89_0 f i x y) = (0 : Int32) := by simp only [c0_warningBits_j89_0, if_neg h4]
      rw [e0] at hJ
      exact hJ
  refine hj11 ?_
  show fl_Tq _ 17 98 [some (.inr (.inr (.inl (18, 18 + 4 * i)))), some (.inl x), some (.inr (.inr (.inl (3, 3)))), some (.inl y), some (.inl (c0_voltsAt_v f i x)), some (.inl (((c0_warningBits_j17_0 f i x y) ||| (c0_warningBits_j39_0 f i x y)) ||| (c0_warningBits_j64_0 f i x y)))] [.inl (c0_warningBits_j89_0 f i x y), .inl (((c0_warningBits_j17_0 f i x y) ||| (c0_warningBits_j39_0 f i x y)) ||| (c0_warningBits_j64_0 f i x y))] (f, l) _
  refine fl_Tq.stp (pc' := 99) (lv' := [some (.inr (.inr (.inl (18, 18 + 4 * i)))), some (.inl x), some (.inr (.inr (.inl (3, 3)))), some (.inl y), some (.inl (c0_voltsAt_v f i x)), some (.inl (((c0_warningBits_j17_0 f i x y) ||| (c0_warningBits_j39_0 f i x y)) ||| (c0_warningBits_j64_0 f i x y)))]) (st' := [.inl ((((c0_warningBits_j17_0 f i x y) ||| (c0_warningBits_j39_0 f i x y)) ||| (c0_warningBits_j64_0 f i x y)) ||| (c0_warningBits_j89_0 f i x y))]) (m' := (f, l)) rfl rfl (fl_bo rfl) rfl ?_
  refine fl_Tq.stp (pc' := 101) (lv' := [some (.inr (.inr (.inl (18, 18 + 4 * i)))), some (.inl x), some (.inr (.inr (.inl (3, 3)))), some (.inl y), some (.inl (c0_voltsAt_v f i x)), some (.inl ((((c0_warningBits_j17_0 f i x y) ||| (c0_warningBits_j39_0 f i x y)) ||| (c0_warningBits_j64_0 f i x y)) ||| (c0_warningBits_j89_0 f i x y)))]) (st' := []) (m' := (f, l)) rfl rfl (fl_bo rfl) rfl ?_
  refine fl_Tq.stp (pc' := 103) (lv' := [some (.inr (.inr (.inl (18, 18 + 4 * i)))), some (.inl x), some (.inr (.inr (.inl (3, 3)))), some (.inl y), some (.inl (c0_voltsAt_v f i x)), some (.inl ((((c0_warningBits_j17_0 f i x y) ||| (c0_warningBits_j39_0 f i x y)) ||| (c0_warningBits_j64_0 f i x y)) ||| (c0_warningBits_j89_0 f i x y)))]) (st' := [.inl ((((c0_warningBits_j17_0 f i x y) ||| (c0_warningBits_j39_0 f i x y)) ||| (c0_warningBits_j64_0 f i x y)) ||| (c0_warningBits_j89_0 f i x y))]) (m' := (f, l)) rfl rfl (fl_bo rfl) rfl ?_
  exact fl_Tq.ret rfl rfl rfl k
noncomputable def c0_tellWhat_j147_0 (f : t2_F) (i : Nat) (x y : Int32) : Int32 := if 0 < (f (18 + 4 * i) 1).toInt then ((f (18 + 4 * i) 0) * (1000 : Int32)) / (f (18 + 4 * i) 1) else (-1 : Int32)
noncomputable def c0_tellWhat_j172_0 (f : t2_F) (i : Nat) (x y : Int32) : Int32 := if (f (18 + 4 * i) 10).toInt = 0 then (-1 : Int32) else f (18 + 4 * i) 12
noncomputable def c0_tellWhat_j188_0 (f : t2_F) (i : Nat) (x y : Int32) : Int32 := if (f (18 + 4 * i) 10).toInt = 0 then (-1 : Int32) else f (18 + 4 * i) 13
noncomputable def c0_tellWhat_v (f : t2_F) (i : Nat) (x y : Int32) : Int32 := if x.toInt = 0 then f (18 + 4 * i) 0 else (if x.toInt = 1 then f (18 + 4 * i) 2 else (if x.toInt = 2 then f (18 + 4 * i) 5 else (if x.toInt = 3 then f (18 + 4 * i) 6 else (if x.toInt = 4 then f (18 + 4 * i) 3 else (if x.toInt = 5 then f (18 + 4 * i) 4 else (if x.toInt = 6 then c0_voltsAt_v f i y else (if x.toInt = 7 then c0_reckonedPart_v f i else (if x.toInt = 8 then f (18 + 4 * i) 8 else (if x.toInt = 9 then f (18 + 4 * i) 9 else (if x.toInt = 10 then c0_tellWhat_j147_0 f i x y else (if x.toInt = 11 then c0_tellWhat_j172_0 f i x y else (if x.toInt = 12 then c0_tellWhat_j188_0 f i x y else (if x.toInt = 13 then f (18 + 4 * i) 7 else (if x.toInt = 14 then f (19 + 4 * i) 2 else (if x.toInt = 15 then f (18 + 4 * i) 14 else (if x.toInt = 16 then f (18 + 4 * i) 15 else (if x.toInt = 17 then f (18 + 4 * i) 16 else (if x.toInt = 18 then f (18 + 4 * i) 18 else (-1000000000 : Int32)))))))))))))))))))
theorem c0_tellWhat_q {L : Nat} {xs : Nat → Int32} {f : t2_F} {l : t2_L} {Q : Option fl_V → fl_M → Prop} {i : Nat} {x y : Int32} (hi : i < 16) (k : Q (some (.inl (c0_tellWhat_v f i x y))) (f, l)) : fl_Tq (pw_P L xs) 18 0 (fl_args (am_mxl (pw_P L xs) 18) [.inr (.inr (.inl (18, 18 + 4 * i))), .inl x, .inl y]) [] (f, l) Q := by
  refine fl_Tq.stp (pc' := 1) (lv' := [some (.inr (.inr (.inl (18, 18 + 4 * i)))), some (.inl x), some (.inl y)]) (st' := [.inl x]) (m' := (f, l)) rfl rfl (fl_bo rfl) rfl ?_
  by_cases h1 : x.toInt = 0
  · refine fl_Tq.swI (k := 0) rfl (fl_bo rfl) h1 rfl rfl ?_
    refine fl_Tq.stp (pc' := 93) (lv' := [some (.inr (.inr (.inl (18, 18 + 4 * i)))), some (.inl x), some (.inl y)]) (st' := [.inr (.inr (.inl (18, 18 + 4 * i)))]) (m' := (f, l)) rfl rfl (fl_bo rfl) rfl ?_
    refine fl_Tq.gfV (k := 0) (v := f (18 + 4 * i) 0) rfl (fl_oks_ok ⟨t2_kc0 hi, True.intro⟩) rfl rfl ?_
    refine fl_Tq.ret rfl rfl rfl ?_
    unfold c0_tellWhat_v at k
    simp only [if_pos h1] at k
    exact k
  by_cases h2 : x.toInt = 1
  · refine fl_Tq.swI (k := 1) rfl (fl_bo rfl) h2 rfl rfl ?_
    refine fl_Tq.stp (pc' := 98) (lv' := [some (.inr (.inr (.inl (18, 18 + 4 * i)))), some (.inl x), some (.inl y)]) (st' := [.inr (.inr (.inl (18, 18 + 4 * i)))]) (m' := (f, l)) rfl rfl (fl_bo rfl) rfl ?_
    refine fl_Tq.gfV (k := 2) (v := f (18 + 4 * i) 2) rfl (fl_oks_ok ⟨t2_kc0 hi, True.intro⟩) rfl rfl ?_
    refine fl_Tq.ret rfl rfl rfl ?_
    unfold c0_tellWhat_v at k
    simp only [if_neg h1, if_pos h2] at k
    exact k
  by_cases h3 : x.toInt = 2
  · refine fl_Tq.swI (k := 2) rfl (fl_bo rfl) h3 rfl rfl ?_
    refine fl_Tq.stp (pc' := 103) (lv' := [some (.inr (.inr (.inl (18, 18 + 4 * i)))), some (.inl x), some (.inl y)]) (st' := [.inr (.inr (.inl (18, 18 + 4 * i)))]) (m' := (f, l)) rfl rfl (fl_bo rfl) rfl ?_
    refine fl_Tq.gfV (k := 5) (v := f (18 + 4 * i) 5) rfl (fl_oks_ok ⟨t2_kc0 hi, True.intro⟩) rfl rfl ?_
    refine fl_Tq.ret rfl rfl rfl ?_
    unfold c0_tellWhat_v at k
    simp only [if_neg h1, if_neg h2, if_pos h3] at k
    exact k
  by_cases h4 : x.toInt = 3
  · refine fl_Tq.swI (k := 3) rfl (fl_bo rfl) h4 rfl rfl ?_
    refine fl_Tq.stp (pc' := 108) (lv' := [some (.inr (.inr (.inl (18, 18 + 4 * i)))), some (.inl x), some (.inl y)]) (st' := [.inr (.inr (.inl (18, 18 + 4 * i)))]) (m' := (f, l)) rfl rfl (fl_bo rfl) rfl ?_
    refine fl_Tq.gfV (k := 6) (v := f (18 + 4 * i) 6) rfl (fl_oks_ok ⟨t2_kc0 hi, True.intro⟩) rfl rfl ?_
    refine fl_Tq.ret rfl rfl rfl ?_
    unfold c0_tellWhat_v at k
    simp only [if_neg h1, if_neg h2, if_neg h3, if_pos h4] at k
    exact k
  by_cases h5 : x.toInt = 4
  · refine fl_Tq.swI (k := 4) rfl (fl_bo rfl) h5 rfl rfl ?_
    refine fl_Tq.stp (pc' := 113) (lv' := [some (.inr (.inr (.inl (18, 18 + 4 * i)))), some (.inl x), some (.inl y)]) (st' := [.inr (.inr (.inl (18, 18 + 4 * i)))]) (m' := (f, l)) rfl rfl (fl_bo rfl) rfl ?_
    refine fl_Tq.gfV (k := 3) (v := f (18 + 4 * i) 3) rfl (fl_oks_ok ⟨t2_kc0 hi, True.intro⟩) rfl rfl ?_
    refine fl_Tq.ret rfl rfl rfl ?_
    unfold c0_tellWhat_v at k
    simp only [if_neg h1, if_neg h2, if_neg h3, if_neg h4, if_pos h5] at k
    exact k
  by_cases h6 : x.toInt = 5
  · refine fl_Tq.swI (k := 5) rfl (fl_bo rfl) h6 rfl rfl ?_
    refine fl_Tq.stp (pc' := 118) (lv' := [some (.inr (.inr (.inl (18, 18 + 4 * i)))), some (.inl x), some (.inl y)]) (st' := [.inr (.inr (.inl (18, 18 + 4 * i)))]) (m' := (f, l)) rfl rfl (fl_bo rfl) rfl ?_
    refine fl_Tq.gfV (k := 4) (v := f (18 + 4 * i) 4) rfl (fl_oks_ok ⟨t2_kc0 hi, True.intro⟩) rfl rfl ?_
    refine fl_Tq.ret rfl rfl rfl ?_
    unfold c0_tellWhat_v at k
    simp only [if_neg h1, if_neg h2, if_neg h3, if_neg h4, if_neg h5, if_pos h6] at k
    exact k
  by_cases h7 : x.toInt = 6
  · refine fl_Tq.swI (k := 6) rfl (fl_bo rfl) h7 rfl rfl ?_
    refine fl_Tq.stp (pc' := 123) (lv' := [some (.inr (.inr (.inl (18, 18 + 4 * i)))), some (.inl x), some (.inl y)]) (st' := [.inr (.inr (.inl (18, 18 + 4 * i)))]) (m' := (f, l)) rfl rfl (fl_bo rfl) rfl ?_
    refine fl_Tq.stp (pc' := 124) (lv' := [some (.inr (.inr (.inl (18, 18 + 4 * i)))), some (.inl x), some (.inl y)]) (st' := [.inl y, .inr (.inr (.inl (18, 18 + 4 * i)))]) (m' := (f, l)) rfl rfl (fl_oks_ok ⟨t2_kc0 hi, True.intro⟩) rfl ?_
    refine fl_Tq.cal rfl rfl (fl_oks_ok ⟨True.intro, t2_kc0 hi, True.intro⟩) rfl ?_
    refine c0_voltsAt_q hi ?_
    show fl_Tq _ 18 127 [some (.inr (.inr (.inl (18, 18 + 4 * i)))), some (.inl x), some (.inl y)] [.inl (c0_voltsAt_v f i y)] (f, l) _
    refine fl_Tq.ret rfl rfl rfl ?_
    unfold c0_tellWhat_v at k
    simp only [if_neg h1, if_neg h2, if_neg h3, if_neg h4, if_neg h5, if_neg h6, if_pos h7] at k
    exact k
  by_cases h8 : x.toInt = 7
  · refine fl_Tq.swI (k := 7) rfl (fl_bo rfl) h8 rfl rfl ?_
    refine fl_Tq.stp (pc' := 129) (lv' := [some (.inr (.inr (.inl (18, 18 + 4 * i)))), some (.inl x), some (.inl y)]) (st' := [.inr (.inr (.inl (18, 18 + 4 * i)))]) (m' := (f, l)) rfl rfl (fl_bo rfl) rfl ?_
    refine fl_Tq.cal rfl rfl (fl_oks_ok ⟨t2_kc0 hi, True.intro⟩) rfl ?_
    refine c0_reckonedPart_q hi ?_
    show fl_Tq _ 18 132 [some (.inr (.inr (.inl (18, 18 + 4 * i)))), some (.inl x), some (.inl y)] [.inl (c0_reckonedPart_v f i)] (f, l) _
    refine fl_Tq.ret rfl rfl rfl ?_
    unfold c0_tellWhat_v at k
    simp only [if_neg h1, if_neg h2, if_neg h3, if_neg h4, if_neg h5, if_neg h6, if_neg h7, if_pos h8] at k
    exact k
  by_cases h9 : x.toInt = 8
  · refine fl_Tq.swI (k := 8) rfl (fl_bo rfl) h9 rfl rfl ?_
    refine fl_Tq.stp (pc' := 134) (lv' := [some (.inr (.inr (.inl (18, 18 + 4 * i)))), some (.inl x), some (.inl y)]) (st' := [.inr (.inr (.inl (18, 18 + 4 * i)))]) (m' := (f, l)) rfl rfl (fl_bo rfl) rfl ?_
    refine fl_Tq.gfV (k := 8) (v := f (18 + 4 * i) 8) rfl (fl_oks_ok ⟨t2_kc0 hi, True.intro⟩) rfl rfl ?_
    refine fl_Tq.ret rfl rfl rfl ?_
    unfold c0_tellWhat_v at k
    simp only [if_neg h1, if_neg h2, if_neg h3, if_neg h4, if_neg h5, if_neg h6, if_neg h7, if_neg h8, if_pos h9] at k
    exact k
  by_cases h10 : x.toInt = 9
  · refine fl_Tq.swI (k := 9) rfl (fl_bo rfl) h10 rfl rfl ?_
    refine fl_Tq.stp (pc' := 139) (lv' := [some (.inr (.inr (.inl (18, 18 + 4 * i)))), some (.inl x), some (.inl y)]) (st' := [.inr (.inr (.inl (18, 18 + 4 * i)))]) (m' := (f, l)) rfl rfl (fl_bo rfl) rfl ?_
    refine fl_Tq.gfV (k := 9) (v := f (18 + 4 * i) 9) rfl (fl_oks_ok ⟨t2_kc0 hi, True.intro⟩) rfl rfl ?_
    refine fl_Tq.ret rfl rfl rfl ?_
    unfold c0_tellWhat_v at k
    simp only [if_neg h1, if_neg h2, if_neg h3, if_neg h4, if_neg h5, if_neg h6, if_neg h7, if_neg h8, if_neg h9, if_pos h10] at k
    exact k
  by_cases h11 : x.toInt = 10
  · refine fl_Tq.swI (k := 10) rfl (fl_bo rfl) h11 rfl rfl ?_
    refine fl_Tq.stp (pc' := 144) (lv' := [some (.inr (.inr (.inl (18, 18 + 4 * i)))), some (.inl x), some (.inl y)]) (st' := [.inr (.inr (.inl (18, 18 + 4 * i)))]) (m' := (f, l)) rfl rfl (fl_bo rfl) rfl ?_
    refine fl_Tq.gfV (k := 1) (v := f (18 + 4 * i) 1) rfl (fl_oks_ok ⟨t2_kc0 hi, True.intro⟩) rfl rfl ?_
    have hj12 : fl_Tq (pw_P L xs) 18 167 [some (.inr (.inr (.inl (18, 18 + 4 * i)))), some (.inl x), some (.inl y)] [.inl (c0_tellWhat_j147_0 f i x y)] (f, l) Q → fl_Tq (pw_P L xs) 18 147 [some (.inr (.inr (.inl (18, 18 + 4 * i)))), some (.inl x), some (.inl y)] [.inl (f (18 + 4 * i) 1)] (f, l) Q := by
      intro hJ
      by_cases h12 : 0 < (f (18 + 4 * i) 1).toInt
      · refine fl_Tq.zt rfl (fl_bo rfl) (c1_gt_t h12) rfl ?_
        refine fl_Tq.stp (pc' := 155) (lv' := [some (.inr (.inr (.inl (18, 18 + 4 * i)))), some (.inl x), some (.inl y)]) (st' := [.inr (.inr (.inl (18, 18 + 4 * i)))]) (m' := (f, l)) rfl rfl (fl_bo rfl) rfl ?_
        refine fl_Tq.gfV (k := 0) (v := f (18 + 4 * i) 0) rfl (fl_oks_ok ⟨t2_kc0 hi, True.intro⟩) rfl rfl ?_
        refine fl_Tq.cS (c := (1000 : Int32)) rfl (by decide +kernel) (fl_bo rfl) ?_
        refine fl_Tq.stp (pc' := 162) (lv' := [some (.inr (.inr (.inl (18, 18 + 4 * i)))), some (.inl x), some (.inl y)]) (st' := [.inl ((f (18 + 4 * i) 0) * (1000 : Int32))]) (m' := (f, l)) rfl rfl (fl_bo rfl) rfl ?_
        refine fl_Tq.stp (pc' := 163) (lv' := [some (.inr (.inr (.inl (18, 18 + 4 * i)))), some (.inl x), some (.inl y)]) (st' := [.inr (.inr (.inl (18, 18 + 4 * i))), .inl ((f (18 + 4 * i) 0) * (1000 : Int32))]) (m' := (f, l)) rfl rfl (fl_bo rfl) rfl ?_
        refine fl_Tq.gfV (k := 1) (v := f (18 + 4 * i) 1) rfl (fl_oks_ok ⟨t2_kc0 hi, True.intro, True.intro⟩) rfl rfl ?_
        refine fl_Tq.dv rfl (fl_bo rfl) (t2_nzp h12) ?_
        have e0 : (c0_tellWhat_j147_0 f i x y) = ((f (18 + 4 * i) 0) * (1000 : Int32)) / (f (18 + 4 * i) 1) := by simp only [c0_tellWhat_j147_0, if_pos h12]
        rw [e0] at hJ
        exact hJ
      · refine fl_Tq.zf rfl (fl_bo rfl) (c1_gt_f h12) rfl ?_
        refine fl_Tq.cI (c := (-1 : Int32)) rfl (by decide +kernel) (fl_bo rfl) ?_
        refine fl_Tq.stp (pc' := 167) (lv' := [some (.inr (.inr (.inl (18, 18 + 4 * i)))), some (.inl x), some (.inl y)]) (st' := [.inl (-1 : Int32)]) (m' := (f, l)) rfl rfl (fl_bo rfl) rfl ?_
        have e0 : (c0_tellWhat_j147_0 f i x y) = (-1 : Int32) := by simp only [c0_tellWhat_j147_0, if_neg h12]
        rw [e0] at hJ
        exact hJ
    refine hj12 ?_
    show fl_Tq _ 18 167 [some (.inr (.inr (.inl (18, 18 + 4 * i)))), some (.inl x), some (.inl y)] [.inl (c0_tellWhat_j147_0 f i x y)] (f, l) _
    refine fl_Tq.ret rfl rfl rfl ?_
    unfold c0_tellWhat_v at k
    simp only [if_neg h1, if_neg h2, if_neg h3, if_neg h4, if_neg h5, if_neg h6, if_neg h7, if_neg h8, if_neg h9, if_neg h10, if_pos h11] at k
    exact k
  by_cases h13 : x.toInt = 11
  · refine fl_Tq.swI (k := 11) rfl (fl_bo rfl) h13 rfl rfl ?_
    refine fl_Tq.stp (pc' := 169) (lv' := [some (.inr (.inr (.inl (18, 18 + 4 * i)))), some (.inl x), some (.inl y)]) (st' := [.inr (.inr (.inl (18, 18 + 4 * i)))]) (m' := (f, l)) rfl rfl (fl_bo rfl) rfl ?_
    refine fl_Tq.gfV (k := 10) (v := f (18 + 4 * i) 10) rfl (fl_oks_ok ⟨t2_kc0 hi, True.intro⟩) rfl rfl ?_
    have hj13 : fl_Tq (pw_P L xs) 18 183 [some (.inr (.inr (.inl (18, 18 + 4 * i)))), some (.inl x), some (.inl y)] [.inl (c0_tellWhat_j172_0 f i x y)] (f, l) Q → fl_Tq (pw_P L xs) 18 172 [some (.inr (.inr (.inl (18, 18 + 4 * i)))), some (.inl x), some (.inl y)] [.inl (f (18 + 4 * i) 10)] (f, l) Q := by
      intro hJ
      by_cases h14 : (f (18 + 4 * i) 10).toInt = 0
      · refine fl_Tq.zt rfl (fl_bo rfl) (c1_eq_t h14) rfl ?_
        refine fl_Tq.cI (c := (-1 : Int32)) rfl (by decide +kernel) (fl_bo rfl) ?_
        have e0 : (c0_tellWhat_j172_0 f i x y) = (-1 : Int32) := by simp only [c0_tellWhat_j172_0, if_pos h14]
        rw [e0] at hJ
        exact hJ
      · refine fl_Tq.zf rfl (fl_bo rfl) (c1_eq_f h14) rfl ?_
        refine fl_Tq.stp (pc' := 176) (lv' := [some (.inr (.inr (.inl (18, 18 + 4 * i)))), some (.inl x), some (.inl y)]) (st' := [.inr (.inr (.inl (18, 18 + 4 * i)))]) (m' := (f, l)) rfl rfl (fl_bo rfl) rfl ?_
        refine fl_Tq.gfV (k := 12) (v := f (18 + 4 * i) 12) rfl (fl_oks_ok ⟨t2_kc0 hi, True.intro⟩) rfl rfl ?_
        refine fl_Tq.stp (pc' := 183) (lv' := [some (.inr (.inr (.inl (18, 18 + 4 * i)))), some (.inl x), some (.inl y)]) (st' := [.inl (f (18 + 4 * i) 12)]) (m' := (f, l)) rfl rfl (fl_bo rfl) rfl ?_
        have e0 : (c0_tellWhat_j172_0 f i x y) = f (18 + 4 * i) 12 := by simp only [c0_tellWhat_j172_0, if_neg h14]
        rw [e0] at hJ
        exact hJ
    refine hj13 ?_
    show fl_Tq _ 18 183 [some (.inr (.inr (.inl (18, 18 + 4 * i)))), some (.inl x), some (.inl y)] [.inl (c0_tellWhat_j172_0 f i x y)] (f, l) _
    refine fl_Tq.ret rfl rfl rfl ?_
    unfold c0_tellWhat_v at k
    simp only [if_neg h1, if_neg h2, if_neg h3, if_neg h4, if_neg h5, if_neg h6, if_neg h7, if_neg h8, if_neg h9, if_neg h10, if_neg h11, if_pos h13] at k
    exact k
  by_cases h15 : x.toInt = 12
  · refine fl_Tq.swI (k := 12) rfl (fl_bo rfl) h15 rfl rfl ?_
    refine fl_Tq.stp (pc' := 185) (lv' := [some (.inr (.inr (.inl (18, 18 + 4 * i)))), some (.inl x), some (.inl y)]) (st' := [.inr (.inr (.inl (18, 18 + 4 * i)))]) (m' := (f, l)) rfl rfl (fl_bo rfl) rfl ?_
    refine fl_Tq.gfV (k := 10) (v := f (18 + 4 * i) 10) rfl (fl_oks_ok ⟨t2_kc0 hi, True.intro⟩) rfl rfl ?_
    have hj14 : fl_Tq (pw_P L xs) 18 199 [some (.inr (.inr (.inl (18, 18 + 4 * i)))), some (.inl x), some (.inl y)] [.inl (c0_tellWhat_j188_0 f i x y)] (f, l) Q → fl_Tq (pw_P L xs) 18 188 [some (.inr (.inr (.inl (18, 18 + 4 * i)))), some (.inl x), some (.inl y)] [.inl (f (18 + 4 * i) 10)] (f, l) Q := by
      intro hJ
      by_cases h16 : (f (18 + 4 * i) 10).toInt = 0
      · refine fl_Tq.zt rfl (fl_bo rfl) (c1_eq_t h16) rfl ?_
        refine fl_Tq.cI (c := (-1 : Int32)) rfl (by decide +kernel) (fl_bo rfl) ?_
        have e0 : (c0_tellWhat_j188_0 f i x y) = (-1 : Int32) := by simp only [c0_tellWhat_j188_0, if_pos h16]
        rw [e0] at hJ
        exact hJ
      · refine fl_Tq.zf rfl (fl_bo rfl) (c1_eq_f h16) rfl ?_
        refine fl_Tq.stp (pc' := 192) (lv' := [some (.inr (.inr (.inl (18, 18 + 4 * i)))), some (.inl x), some (.inl y)]) (st' := [.inr (.inr (.inl (18, 18 + 4 * i)))]) (m' := (f, l)) rfl rfl (fl_bo rfl) rfl ?_
        refine fl_Tq.gfV (k := 13) (v := f (18 + 4 * i) 13) rfl (fl_oks_ok ⟨t2_kc0 hi, True.intro⟩) rfl rfl ?_
        refine fl_Tq.stp (pc' := 199) (lv' := [some (.inr (.inr (.inl (18, 18 + 4 * i)))), some (.inl x), some (.inl y)]) (st' := [.inl (f (18 + 4 * i) 13)]) (m' := (f, l)) rfl rfl (fl_bo rfl) rfl ?_
        have e0 : (c0_tellWhat_j188_0 f i x y) = f (18 + 4 * i) 13 := by simp only [c0_tellWhat_j188_0, if_neg h16]
        rw [e0] at hJ
        exact hJ
    refine hj14 ?_
    show fl_Tq _ 18 199 [some (.inr (.inr (.inl (18, 18 + 4 * i)))), some (.inl x), some (.inl y)] [.inl (c0_tellWhat_j188_0 f i x y)] (f, l) _
    refine fl_Tq.ret rfl rfl rfl ?_
    unfold c0_tellWhat_v at k
    simp only [if_neg h1, if_neg h2, if_neg h3, if_neg h4, if_neg h5, if_neg h6, if_neg h7, if_neg h8, if_neg h9, if_neg h10, if_neg h11, if_neg h13, if_pos h15] at k
    exact k
  by_cases h17 : x.toInt = 13
  · refine fl_Tq.swI (k := 13) rfl (fl_bo rfl) h17 rfl rfl ?_
    refine fl_Tq.stp (pc' := 201) (lv' := [some (.inr (.inr (.inl (18, 18 + 4 * i)))), some (.inl x), some (.inl y)]) (st' := [.inr (.inr (.inl (18, 18 + 4 * i)))]) (m' := (f, l)) rfl rfl (fl_bo rfl) rfl ?_
    refine fl_Tq.gfV (k := 7) (v := f (18 + 4 * i) 7) rfl (fl_oks_ok ⟨t2_kc0 hi, True.intro⟩) rfl rfl ?_
    refine fl_Tq.ret rfl rfl rfl ?_
    unfold c0_tellWhat_v at k
    simp only [if_neg h1, if_neg h2, if_neg h3, if_neg h4, if_neg h5, if_neg h6, if_neg h7, if_neg h8, if_neg h9, if_neg h10, if_neg h11, if_neg h13, if_neg h15, if_pos h17] at k
    exact k
  by_cases h18 : x.toInt = 14
  · refine fl_Tq.swI (k := 14) rfl (fl_bo rfl) h18 rfl rfl ?_
    refine fl_Tq.stp (pc' := 206) (lv' := [some (.inr (.inr (.inl (18, 18 + 4 * i)))), some (.inl x), some (.inl y)]) (st' := [.inr (.inr (.inl (18, 18 + 4 * i)))]) (m' := (f, l)) rfl rfl (fl_bo rfl) rfl ?_
    refine fl_Tq.gfR (d := 1) (p' := 19 + 4 * i) rfl (fl_oks_ok ⟨t2_kc0 hi, True.intro⟩) rfl (by omega) ?_
    refine fl_Tq.gfV (k := 2) (v := f (19 + 4 * i) 2) rfl (fl_oks_ok ⟨t2_kt0 hi, True.intro⟩) rfl rfl ?_
    refine fl_Tq.ret rfl rfl rfl ?_
    unfold c0_tellWhat_v at k
    simp only [if_neg h1, if_neg h2, if_neg h3, if_neg h4, if_neg h5, if_neg h6, if_neg h7, if_neg h8, if_neg h9, if_neg h10, if_neg h11, if_neg h13, if_neg h15, if_neg h17, if_pos h18] at k
    exact k
  by_cases h19 : x.toInt = 15
  · refine fl_Tq.swI (k := 15) rfl (fl_bo rfl) h19 rfl rfl ?_
    refine fl_Tq.stp (pc' := 214) (lv' := [some (.inr (.inr (.inl (18, 18 + 4 * i)))), some (.inl x), some (.inl y)]) (st' := [.inr (.inr (.inl (18, 18 + 4 * i)))]) (m' := (f, l)) rfl rfl (fl_bo rfl) rfl ?_
    refine fl_Tq.gfV (k := 14) (v := f (18 + 4 * i) 14) rfl (fl_oks_ok ⟨t2_kc0 hi, True.intro⟩) rfl rfl ?_
    refine fl_Tq.ret rfl rfl rfl ?_
    unfold c0_tellWhat_v at k
    simp only [if_neg h1, if_neg h2, if_neg h3, if_neg h4, if_neg h5, if_neg h6, if_neg h7, if_neg h8, if_neg h9, if_neg h10, if_neg h11, if_neg h13, if_neg h15, if_neg h17, if_neg h18, if_pos h19] at k
    exact k
  by_cases h20 : x.toInt = 16
  · refine fl_Tq.swI (k := 16) rfl (fl_bo rfl) h20 rfl rfl ?_
    refine fl_Tq.stp (pc' := 219) (lv' := [some (.inr (.inr (.inl (18, 18 + 4 * i)))), some (.inl x), some (.inl y)]) (st' := [.inr (.inr (.inl (18, 18 + 4 * i)))]) (m' := (f, l)) rfl rfl (fl_bo rfl) rfl ?_
    refine fl_Tq.gfV (k := 15) (v := f (18 + 4 * i) 15) rfl (fl_oks_ok ⟨t2_kc0 hi, True.intro⟩) rfl rfl ?_
    refine fl_Tq.ret rfl rfl rfl ?_
    unfold c0_tellWhat_v at k
    simp only [if_neg h1, if_neg h2, if_neg h3, if_neg h4, if_neg h5, if_neg h6, if_neg h7, if_neg h8, if_neg h9, if_neg h10, if_neg h11, if_neg h13, if_neg h15, if_neg h17, if_neg h18, if_neg h19, if_pos h20] at k
    exact k
  by_cases h21 : x.toInt = 17
  · refine fl_Tq.swI (k := 17) rfl (fl_bo rfl) h21 rfl rfl ?_
    refine fl_Tq.stp (pc' := 224) (lv' := [some (.inr (.inr (.inl (18, 18 + 4 * i)))), some (.inl x), some (.inl y)]) (st' := [.inr (.inr (.inl (18, 18 + 4 * i)))]) (m' := (f, l)) rfl rfl (fl_bo rfl) rfl ?_
    refine fl_Tq.gfV (k := 16) (v := f (18 + 4 * i) 16) rfl (fl_oks_ok ⟨t2_kc0 hi, True.intro⟩) rfl rfl ?_
    refine fl_Tq.ret rfl rfl rfl ?_
    unfold c0_tellWhat_v at k
    simp only [if_neg h1, if_neg h2, if_neg h3, if_neg h4, if_neg h5, if_neg h6, if_neg h7, if_neg h8, if_neg h9, if_neg h10, if_neg h11, if_neg h13, if_neg h15, if_neg h17, if_neg h18, if_neg h19, if_neg h20, if_pos h21] at k
    exact k
  by_cases h22 : x.toInt = 18
  · refine fl_Tq.swI (k := 18) rfl (fl_bo rfl) h22 rfl rfl ?_
    refine fl_Tq.stp (pc' := 229) (lv' := [some (.inr (.inr (.inl (18, 18 + 4 * i)))), some (.inl x), some (.inl y)]) (st' := [.inr (.inr (.inl (18, 18 + 4 * i)))]) (m' := (f, l)) rfl rfl (fl_bo rfl) rfl ?_
    refine fl_Tq.gfV (k := 18) (v := f (18 + 4 * i) 18) rfl (fl_oks_ok ⟨t2_kc0 hi, True.intro⟩) rfl rfl ?_
    refine fl_Tq.ret rfl rfl rfl ?_
    unfold c0_tellWhat_v at k
    simp only [if_neg h1, if_neg h2, if_neg h3, if_neg h4, if_neg h5, if_neg h6, if_neg h7, if_neg h8, if_neg h9, if_neg h10, if_neg h11, if_neg h13, if_neg h15, if_neg h17, if_neg h18, if_neg h19, if_neg h20, if_neg h21, if_pos h22] at k
    exact k
  refine fl_Tq.swD rfl (fl_bo rfl) (by omega) rfl ?_
  refine fl_Tq.stp (pc' := 235) (lv' := [some (.inr (.inr (.inl (18, 18 + 4 * i)))), some (.inl x), some (.inl y)]) (st' := [.inl (-1000000000 : Int32)]) (m' := (f, l)) rfl rfl (fl_bo rfl) rfl ?_
  refine fl_Tq.ret rfl rfl rfl ?_
  unfold c0_tellWhat_v at k
  simp only [if_neg h1, if_neg h2, if_neg h3, if_neg h4, if_neg h5, if_neg h6, if_neg h7, if_neg h8, if_neg h9, if_neg h10, if_neg h11, if_neg h13, if_neg h15, if_neg h17, if_neg h18, if_neg h19, if_neg h20, if_neg h21, if_neg h22] at k
  exact k
noncomputable def c2_putReckoned_m (f : t2_F) (i : Nat) (x : Int32) : t2_F := fl_row f (198 + 4 * i) (upd (f (198 + 4 * i)) 8 (t2_heldTo_v x (0 : Int32) ((f (198 + 4 * i) 0) * (3600 : Int32))))
theorem c2_putReckoned_fr {f : t2_F} {i : Nat} {x : Int32} {p : Nat} (e0 : p ≠ 198 + 4 * i) : c2_putReckoned_m f i x p = f p := by
  unfold c2_putReckoned_m
  repeat' split
  all_goals first | rfl | simp only [fl_row_ne e0]
theorem c2_putReckoned_q {L : Nat} {xs : Nat → Int32} {f : t2_F} {l : t2_L} {Q : Option fl_V → fl_M → Prop} {i : Nat} {x : Int32} (hi : i < 16) (k : Q none (c2_putReckoned_m f i x, l)) : fl_Tq (pw_P L xs) 6 0 (fl_args (am_mxl (pw_P L xs) 6) [.inr (.inr (.inl (66, 198 + 4 * i))), .inl x]) [] (f, l) Q := by
  refine fl_Tq.stp (pc' := 1) (lv' := [some (.inr (.inr (.inl (66, 198 + 4 * i)))), some (.inl x)]) (st' := [.inr (.inr (.inl (66, 198 + 4 * i)))]) (m' := (f, l)) rfl rfl (fl_bo rfl) rfl ?_
  refine fl_Tq.stp (pc' := 2) (lv' := [some (.inr (.inr (.inl (66, 198 + 4 * i)))), some (.inl x)]) (st' := [.inl x, .inr (.inr (.inl (66, 198 + 4 * i)))]) (m' := (f, l)) rfl rfl (fl_oks_ok ⟨t2_kc2 hi, True.intro⟩) rfl ?_
  refine fl_Tq.cI (c := (0 : Int32)) rfl (by decide +kernel) (fl_oks_ok ⟨True.intro, t2_kc2 hi, True.intro⟩) ?_
  refine fl_Tq.stp (pc' := 4) (lv' := [some (.inr (.inr (.inl (66, 198 + 4 * i)))), some (.inl x)]) (st' := [.inr (.inr (.inl (66, 198 + 4 * i))), .inl (0 : Int32), .inl x, .inr (.inr (.inl (66, 198 + 4 * i)))]) (m' := (f, l)) rfl rfl (fl_oks_ok ⟨True.intro, True.intro, t2_kc2 hi, True.intro⟩) rfl ?_
  refine fl_Tq.cal rfl rfl (fl_oks_ok ⟨t2_kc2 hi, True.intro, True.intro, t2_kc2 hi, True.intro⟩) rfl ?_
  refine fl_Tq.stp (pc' := 1) (lv' := [some (.inr (.inr (.inl (66, 198 + 4 * i))))]) (st' := [.inr (.inr (.inl (66, 198 + 4 * i)))]) (m' := (f, l)) rfl rfl (fl_bo rfl) rfl ?_
  refine fl_Tq.gfV (k := 0) (v := f (198 + 4 * i) 0) rfl (fl_oks_ok ⟨t2_kc2 hi, True.intro⟩) rfl rfl ?_
  refine fl_Tq.cS (c := (3600 : Int32)) rfl (by decide +kernel) (fl_bo rfl) ?_
  refine fl_Tq.stp (pc' := 8) (lv' := [some (.inr (.inr (.inl (66, 198 + 4 * i))))]) (st' := [.inl ((f (198 + 4 * i) 0) * (3600 : Int32))]) (m' := (f, l)) rfl rfl (fl_bo rfl) rfl ?_
  refine fl_Tq.ret rfl rfl rfl ?_
  show fl_Tq _ 6 7 [some (.inr (.inr (.inl (66, 198 + 4 * i)))), some (.inl x)] [.inl ((f (198 + 4 * i) 0) * (3600 : Int32)), .inl (0 : Int32), .inl x, .inr (.inr (.inl (66, 198 + 4 * i)))] (f, l) _
  refine fl_Tq.cal rfl rfl (fl_oks_ok ⟨True.intro, True.intro, True.intro, t2_kc2 hi, True.intro⟩) rfl ?_
  refine t2_heldTo_q  ?_
  show fl_Tq _ 6 10 [some (.inr (.inr (.inl (66, 198 + 4 * i)))), some (.inl x)] [.inl (t2_heldTo_v x (0 : Int32) ((f (198 + 4 * i) 0) * (3600 : Int32))), .inr (.inr (.inl (66, 198 + 4 * i)))] (f, l) _
  refine fl_Tq.pfV (k := 8) (m' := (fl_row f (198 + 4 * i) (upd (f (198 + 4 * i)) 8 (t2_heldTo_v x (0 : Int32) ((f (198 + 4 * i) 0) * (3600 : Int32)))), l)) rfl (fl_oks_ok ⟨True.intro, t2_kc2 hi, True.intro⟩) rfl (t2_upn rfl) ?_
  exact fl_Tq.ret rfl rfl rfl k
noncomputable def c2_reckonedPart_v (f : t2_F) (i : Nat) : Int32 := t2_partOf_v (f (198 + 4 * i) 8) ((f (198 + 4 * i) 0) * (3600 : Int32))
theorem c2_reckonedPart_q {L : Nat} {xs : Nat → Int32} {f : t2_F} {l : t2_L} {Q : Option fl_V → fl_M → Prop} {i : Nat} (hi : i < 16) (k : Q (some (.inl (c2_reckonedPart_v f i))) (f, l)) : fl_Tq (pw_P L xs) 7 0 (fl_args (am_mxl (pw_P L xs) 7) [.inr (.inr (.inl (66, 198 + 4 * i)))]) [] (f, l) Q := by
  refine fl_Tq.stp (pc' := 1) (lv' := [some (.inr (.inr (.inl (66, 198 + 4 * i))))]) (st' := [.inr (.inr (.inl (66, 198 + 4 * i)))]) (m' := (f, l)) rfl rfl (fl_bo rfl) rfl ?_
  refine fl_Tq.gfV (k := 8) (v := f (198 + 4 * i) 8) rfl (fl_oks_ok ⟨t2_kc2 hi, True.intro⟩) rfl rfl ?_
  refine fl_Tq.stp (pc' := 5) (lv' := [some (.inr (.inr (.inl (66, 198 + 4 * i))))]) (st' := [.inr (.inr (.inl (66, 198 + 4 * i))), .inl (f (198 + 4 * i) 8)]) (m' := (f, l)) rfl rfl (fl_bo rfl) rfl ?_
  refine fl_Tq.cal rfl rfl (fl_oks_ok ⟨t2_kc2 hi, True.intro, True.intro⟩) rfl ?_
  refine fl_Tq.stp (pc' := 1) (lv' := [some (.inr (.inr (.inl (66, 198 + 4 * i))))]) (st' := [.inr (.inr (.inl (66, 198 + 4 * i)))]) (m' := (f, l)) rfl rfl (fl_bo rfl) rfl ?_
  refine fl_Tq.gfV (k := 0) (v := f (198 + 4 * i) 0) rfl (fl_oks_ok ⟨t2_kc2 hi, True.intro⟩) rfl rfl ?_
  refine fl_Tq.cS (c := (3600 : Int32)) rfl (by decide +kernel) (fl_bo rfl) ?_
  refine fl_Tq.stp (pc' := 8) (lv' := [some (.inr (.inr (.inl (66, 198 + 4 * i))))]) (st' := [.inl ((f (198 + 4 * i) 0) * (3600 : Int32))]) (m' := (f, l)) rfl rfl (fl_bo rfl) rfl ?_
  refine fl_Tq.ret rfl rfl rfl ?_
  show fl_Tq _ 7 8 [some (.inr (.inr (.inl (66, 198 + 4 * i))))] [.inl ((f (198 + 4 * i) 0) * (3600 : Int32)), .inl (f (198 + 4 * i) 8)] (f, l) _
  refine fl_Tq.cal rfl rfl (fl_bo rfl) rfl ?_
  refine t2_partOf_q  ?_
  show fl_Tq _ 7 11 [some (.inr (.inr (.inl (66, 198 + 4 * i))))] [.inl (t2_partOf_v (f (198 + 4 * i) 8) ((f (198 + 4 * i) 0) * (3600 : Int32)))] (f, l) _
  exact fl_Tq.ret rfl rfl rfl k
noncomputable def c2_voltsAt_v (f : t2_F) (i : Nat) (x : Int32) : Int32 := ((f (198 + 4 * i) 4) + (f (198 + 4 * i) 7)) + (t2_fdiv_v (x * (f (198 + 4 * i) 5)) (1000 : Int32))
theorem c2_voltsAt_q {L : Nat} {xs : Nat → Int32} {f : t2_F} {l : t2_L} {Q : Option fl_V → fl_M → Prop} {i : Nat} {x : Int32} (hi : i < 16) (k : Q (some (.inl (c2_voltsAt_v f i x))) (f, l)) : fl_Tq (pw_P L xs) 8 0 (fl_args (am_mxl (pw_P L xs) 8) [.inr (.inr (.inl (66, 198 + 4 * i))), .inl x]) [] (f, l) Q := by
  refine fl_Tq.stp (pc' := 1) (lv' := [some (.inr (.inr (.inl (66, 198 + 4 * i)))), some (.inl x)]) (st' := [.inr (.inr (.inl (66, 198 + 4 * i)))]) (m' := (f, l)) rfl rfl (fl_bo rfl) rfl ?_
  refine fl_Tq.gfV (k := 4) (v := f (198 + 4 * i) 4) rfl (fl_oks_ok ⟨t2_kc2 hi, True.intro⟩) rfl rfl ?_
  refine fl_Tq.stp (pc' := 5) (lv' := [some (.inr (.inr (.inl (66, 198 + 4 * i)))), some (.inl x)]) (st' := [.inr (.inr (.inl (66, 198 + 4 * i))), .inl (f (198 + 4 * i) 4)]) (m' := (f, l)) rfl rfl (fl_bo rfl) rfl ?_
  refine fl_Tq.gfV (k := 7) (v := f (198 + 4 * i) 7) rfl (fl_oks_ok ⟨t2_kc2 hi, True.intro, True.intro⟩) rfl rfl ?_
  refine fl_Tq.stp (pc' := 9) (lv' := [some (.inr (.inr (.inl (66, 198 + 4 * i)))), some (.inl x)]) (st' := [.inl ((f (198 + 4 * i) 4) + (f (198 + 4 * i) 7))]) (m' := (f, l)) rfl rfl (fl_bo rfl) rfl ?_
  refine fl_Tq.stp (pc' := 10) (lv' := [some (.inr (.inr (.inl (66, 198 + 4 * i)))), some (.inl x)]) (st' := [.inl x, .inl ((f (198 + 4 * i) 4) + (f (198 + 4 * i) 7))]) (m' := (f, l)) rfl rfl (fl_bo rfl) rfl ?_
  refine fl_Tq.stp (pc' := 11) (lv' := [some (.inr (.inr (.inl (66, 198 + 4 * i)))), some (.inl x)]) (st' := [.inr (.inr (.inl (66, 198 + 4 * i))), .inl x, .inl ((f (198 + 4 * i) 4) + (f (198 + 4 * i) 7))]) (m' := (f, l)) rfl rfl (fl_bo rfl) rfl ?_
  refine fl_Tq.gfV (k := 5) (v := f (198 + 4 * i) 5) rfl (fl_oks_ok ⟨t2_kc2 hi, True.intro, True.intro, True.intro⟩) rfl rfl ?_
  refine fl_Tq.stp (pc' := 15) (lv' := [some (.inr (.inr (.inl (66, 198 + 4 * i)))), some (.inl x)]) (st' := [.inl (x * (f (198 + 4 * i) 5)), .inl ((f (198 + 4 * i) 4) + (f (198 + 4 * i) 7))]) (m' := (f, l)) rfl rfl (fl_bo rfl) rfl ?_
  refine fl_Tq.cS (c := (1000 : Int32)) rfl (by decide +kernel) (fl_bo rfl) ?_
  refine fl_Tq.cal rfl rfl (fl_bo rfl) rfl ?_
  refine t2_fdiv_q (by decide +kernel) ?_
  show fl_Tq _ 8 21 [some (.inr (.inr (.inl (66, 198 + 4 * i)))), some (.inl x)] [.inl (t2_fdiv_v (x * (f (198 + 4 * i) 5)) (1000 : Int32)), .inl ((f (198 + 4 * i) 4) + (f (198 + 4 * i) 7))] (f, l) _
  refine fl_Tq.stp (pc' := 22) (lv' := [some (.inr (.inr (.inl (66, 198 + 4 * i)))), some (.inl x)]) (st' := [.inl (((f (198 + 4 * i) 4) + (f (198 + 4 * i) 7)) + (t2_fdiv_v (x * (f (198 + 4 * i) 5)) (1000 : Int32)))]) (m' := (f, l)) rfl rfl (fl_bo rfl) rfl ?_
  exact fl_Tq.ret rfl rfl rfl k
noncomputable def c2_putCharge_m (f : t2_F) (i : Nat) (x : Int32) : t2_F := fl_row f (198 + 4 * i) (upd (upd (upd (f (198 + 4 * i)) 2 (t2_heldTo_v x (0 : Int32) ((f (198 + 4 * i) 0) * (3600 : Int32)))) 3 (t2_partOf_v (t2_heldTo_v x (0 : Int32) ((f (198 + 4 * i) 0) * (3600 : Int32))) ((f (198 + 4 * i) 0) * (3600 : Int32)))) 4 (t2_rb (t2_partOf_v (t2_heldTo_v x (0 : Int32) ((f (198 + 4 * i) 0) * (3600 : Int32))) ((f (198 + 4 * i) 0) * (3600 : Int32)))))
theorem c2_putCharge_fr {f : t2_F} {i : Nat} {x : Int32} {p : Nat} (e0 : p ≠ 198 + 4 * i) : c2_putCharge_m f i x p = f p := by
  unfold c2_putCharge_m
  repeat' split
  all_goals first | rfl | simp only [fl_row_ne e0]
theorem c2_putCharge_q {L : Nat} {xs : Nat → Int32} {f : t2_F} {l : t2_L} {Q : Option fl_V → fl_M → Prop} {i : Nat} {x : Int32} (hi : i < 16) (hk : t2_cap (f (198 + 4 * i) 0)) (k : Q none (c2_putCharge_m f i x, l)) : fl_Tq (pw_P L xs) 5 0 (fl_args (am_mxl (pw_P L xs) 5) [.inr (.inr (.inl (66, 198 + 4 * i))), .inl x]) [] (f, l) Q := by
  refine fl_Tq.stp (pc' := 1) (lv' := [some (.inr (.inr (.inl (66, 198 + 4 * i)))), some (.inl x)]) (st' := [.inr (.inr (.inl (66, 198 + 4 * i)))]) (m' := (f, l)) rfl rfl (fl_bo rfl) rfl ?_
  refine fl_Tq.stp (pc' := 2) (lv' := [some (.inr (.inr (.inl (66, 198 + 4 * i)))), some (.inl x)]) (st' := [.inl x, .inr (.inr (.inl (66, 198 + 4 * i)))]) (m' := (f, l)) rfl rfl (fl_oks_ok ⟨t2_kc2 hi, True.intro⟩) rfl ?_
  refine fl_Tq.cI (c := (0 : Int32)) rfl (by decide +kernel) (fl_oks_ok ⟨True.intro, t2_kc2 hi, True.intro⟩) ?_
  refine fl_Tq.stp (pc' := 4) (lv' := [some (.inr (.inr (.inl (66, 198 + 4 * i)))), some (.inl x)]) (st' := [.inr (.inr (.inl (66, 198 + 4 * i))), .inl (0 : Int32), .inl x, .inr (.inr (.inl (66, 198 + 4 * i)))]) (m' := (f, l)) rfl rfl (fl_oks_ok ⟨True.intro, True.intro, t2_kc2 hi, True.intro⟩) rfl ?_
  refine fl_Tq.cal rfl rfl (fl_oks_ok ⟨t2_kc2 hi, True.intro, True.intro, t2_kc2 hi, True.intro⟩) rfl ?_
  refine fl_Tq.stp (pc' := 1) (lv' := [some (.inr (.inr (.inl (66, 198 + 4 * i))))]) (st' := [.inr (.inr (.inl (66, 198 + 4 * i)))]) (m' := (f, l)) rfl rfl (fl_bo rfl) rfl ?_
  refine fl_Tq.gfV (k := 0) (v := f (198 + 4 * i) 0) rfl (fl_oks_ok ⟨t2_kc2 hi, True.intro⟩) rfl rfl ?_
  refine fl_Tq.cS (c := (3600 : Int32)) rfl (by decide +kernel) (fl_bo rfl) ?_
  refine fl_Tq.stp (pc' := 8) (lv' := [some (.inr (.inr (.inl (66, 198 + 4 * i))))]) (st' := [.inl ((f (198 + 4 * i) 0) * (3600 : Int32))]) (m' := (f, l)) rfl rfl (fl_bo rfl) rfl ?_
  refine fl_Tq.ret rfl rfl rfl ?_
  show fl_Tq _ 5 7 [some (.inr (.inr (.inl (66, 198 + 4 * i)))), some (.inl x)] [.inl ((f (198 + 4 * i) 0) * (3600 : Int32)), .inl (0 : Int32), .inl x, .inr (.inr (.inl (66, 198 + 4 * i)))] (f, l) _
  refine fl_Tq.cal rfl rfl (fl_oks_ok ⟨True.intro, True.intro, True.intro, t2_kc2 hi, True.intro⟩) rfl ?_
  refine t2_heldTo_q  ?_
  show fl_Tq _ 5 10 [some (.inr (.inr (.inl (66, 198 + 4 * i)))), some (.inl x)] [.inl (t2_heldTo_v x (0 : Int32) ((f (198 + 4 * i) 0) * (3600 : Int32))), .inr (.inr (.inl (66, 198 + 4 * i)))] (f, l) _
  refine fl_Tq.pfV (k := 2) (m' := (fl_row f (198 + 4 * i) (upd (f (198 + 4 * i)) 2 (t2_heldTo_v x (0 : Int32) ((f (198 + 4 * i) 0) * (3600 : Int32)))), l)) rfl (fl_oks_ok ⟨True.intro, t2_kc2 hi, True.intro⟩) rfl (t2_upn rfl) ?_
  refine fl_Tq.stp (pc' := 14) (lv' := [some (.inr (.inr (.inl (66, 198 + 4 * i)))), some (.inl x)]) (st' := [.inr (.inr (.inl (66, 198 + 4 * i)))]) (m' := (fl_row f (198 + 4 * i) (upd (f (198 + 4 * i)) 2 (t2_heldTo_v x (0 : Int32) ((f (198 + 4 * i) 0) * (3600 : Int32)))), l)) rfl rfl (fl_bo rfl) rfl ?_
  refine fl_Tq.stp (pc' := 15) (lv' := [some (.inr (.inr (.inl (66, 198 + 4 * i)))), some (.inl x)]) (st' := [.inr (.inr (.inl (66, 198 + 4 * i))), .inr (.inr (.inl (66, 198 + 4 * i)))]) (m' := (fl_row f (198 + 4 * i) (upd (f (198 + 4 * i)) 2 (t2_heldTo_v x (0 : Int32) ((f (198 + 4 * i) 0) * (3600 : Int32)))), l)) rfl rfl (fl_oks_ok ⟨t2_kc2 hi, True.intro⟩) rfl ?_
  refine fl_Tq.gfV (k := 2) (v := t2_heldTo_v x (0 : Int32) ((f (198 + 4 * i) 0) * (3600 : Int32))) rfl (fl_oks_ok ⟨t2_kc2 hi, t2_kc2 hi, True.intro⟩) rfl (by simp only [fl_row_self, upd_self]) ?_
  refine fl_Tq.stp (pc' := 19) (lv' := [some (.inr (.inr (.inl (66, 198 + 4 * i)))), some (.inl x)]) (st' := [.inr (.inr (.inl (66, 198 + 4 * i))), .inl (t2_heldTo_v x (0 : Int32) ((f (198 + 4 * i) 0) * (3600 : Int32))), .inr (.inr (.inl (66, 198 + 4 * i)))]) (m' := (fl_row f (198 + 4 * i) (upd (f (198 + 4 * i)) 2 (t2_heldTo_v x (0 : Int32) ((f (198 + 4 * i) 0) * (3600 : Int32)))), l)) rfl rfl (fl_oks_ok ⟨True.intro, t2_kc2 hi, True.intro⟩) rfl ?_
  refine fl_Tq.cal rfl rfl (fl_oks_ok ⟨t2_kc2 hi, True.intro, t2_kc2 hi, True.intro⟩) rfl ?_
  refine fl_Tq.stp (pc' := 1) (lv' := [some (.inr (.inr (.inl (66, 198 + 4 * i))))]) (st' := [.inr (.inr (.inl (66, 198 + 4 * i)))]) (m' := (fl_row f (198 + 4 * i) (upd (f (198 + 4 * i)) 2 (t2_heldTo_v x (0 : Int32) ((f (198 + 4 * i) 0) * (3600 : Int32)))), l)) rfl rfl (fl_bo rfl) rfl ?_
  refine fl_Tq.gfV (k := 0) (v := f (198 + 4 * i) 0) rfl (fl_oks_ok ⟨t2_kc2 hi, True.intro⟩) rfl (by simp only [fl_row_self, upd_ne (by decide : 0 ≠ 2)]) ?_
  refine fl_Tq.cS (c := (3600 : Int32)) rfl (by decide +kernel) (fl_bo rfl) ?_
  refine fl_Tq.stp (pc' := 8) (lv' := [some (.inr (.inr (.inl (66, 198 + 4 * i))))]) (st' := [.inl ((f (198 + 4 * i) 0) * (3600 : Int32))]) (m' := (fl_row f (198 + 4 * i) (upd (f (198 + 4 * i)) 2 (t2_heldTo_v x (0 : Int32) ((f (198 + 4 * i) 0) * (3600 : Int32)))), l)) rfl rfl (fl_bo rfl) rfl ?_
  refine fl_Tq.ret rfl rfl rfl ?_
  show fl_Tq _ 5 22 [some (.inr (.inr (.inl (66, 198 + 4 * i)))), some (.inl x)] [.inl ((f (198 + 4 * i) 0) * (3600 : Int32)), .inl (t2_heldTo_v x (0 : Int32) ((f (198 + 4 * i) 0) * (3600 : Int32))), .inr (.inr (.inl (66, 198 + 4 * i)))] (fl_row f (198 + 4 * i) (upd (f (198 + 4 * i)) 2 (t2_heldTo_v x (0 : Int32) ((f (198 + 4 * i) 0) * (3600 : Int32)))), l) _
  refine fl_Tq.cal rfl rfl (fl_oks_ok ⟨True.intro, True.intro, t2_kc2 hi, True.intro⟩) rfl ?_
  refine t2_partOf_q  ?_
  show fl_Tq _ 5 25 [some (.inr (.inr (.inl (66, 198 + 4 * i)))), some (.inl x)] [.inl (t2_partOf_v (t2_heldTo_v x (0 : Int32) ((f (198 + 4 * i) 0) * (3600 : Int32))) ((f (198 + 4 * i) 0) * (3600 : Int32))), .inr (.inr (.inl (66, 198 + 4 * i)))] (fl_row f (198 + 4 * i) (upd (f (198 + 4 * i)) 2 (t2_heldTo_v x (0 : Int32) ((f (198 + 4 * i) 0) * (3600 : Int32)))), l) _
  refine fl_Tq.pfV (k := 3) (m' := (fl_row f (198 + 4 * i) (upd (upd (f (198 + 4 * i)) 2 (t2_heldTo_v x (0 : Int32) ((f (198 + 4 * i) 0) * (3600 : Int32)))) 3 (t2_partOf_v (t2_heldTo_v x (0 : Int32) ((f (198 + 4 * i) 0) * (3600 : Int32))) ((f (198 + 4 * i) 0) * (3600 : Int32)))), l)) rfl (fl_oks_ok ⟨True.intro, t2_kc2 hi, True.intro⟩) rfl (t2_upr) ?_
  refine fl_Tq.stp (pc' := 29) (lv' := [some (.inr (.inr (.inl (66, 198 + 4 * i)))), some (.inl x)]) (st' := [.inr (.inr (.inl (66, 198 + 4 * i)))]) (m' := (fl_row f (198 + 4 * i) (upd (upd (f (198 + 4 * i)) 2 (t2_heldTo_v x (0 : Int32) ((f (198 + 4 * i) 0) * (3600 : Int32)))) 3 (t2_partOf_v (t2_heldTo_v x (0 : Int32) ((f (198 + 4 * i) 0) * (3600 : Int32))) ((f (198 + 4 * i) 0) * (3600 : Int32)))), l)) rfl rfl (fl_bo rfl) rfl ?_
  refine fl_Tq.stp (pc' := 30) (lv' := [some (.inr (.inr (.inl (66, 198 + 4 * i)))), some (.inl x)]) (st' := [.inr (.inr (.inl (66, 198 + 4 * i))), .inr (.inr (.inl (66, 198 + 4 * i)))]) (m' := (fl_row f (198 + 4 * i) (upd (upd (f (198 + 4 * i)) 2 (t2_heldTo_v x (0 : Int32) ((f (198 + 4 * i) 0) * (3600 : Int32)))) 3 (t2_partOf_v (t2_heldTo_v x (0 : Int32) ((f (198 + 4 * i) 0) * (3600 : Int32))) ((f (198 + 4 * i) 0) * (3600 : Int32)))), l)) rfl rfl (fl_oks_ok ⟨t2_kc2 hi, True.intro⟩) rfl ?_
  refine fl_Tq.gfV (k := 3) (v := t2_partOf_v (t2_heldTo_v x (0 : Int32) ((f (198 + 4 * i) 0) * (3600 : Int32))) ((f (198 + 4 * i) 0) * (3600 : Int32))) rfl (fl_oks_ok ⟨t2_kc2 hi, t2_kc2 hi, True.intro⟩) rfl (by simp only [fl_row_self, upd_self]) ?_
  refine fl_Tq.cal rfl rfl (fl_oks_ok ⟨True.intro, t2_kc2 hi, True.intro⟩) rfl ?_
  refine t2_restBy_q (t2_ph hk) ?_
  show fl_Tq _ 5 36 [some (.inr (.inr (.inl (66, 198 + 4 * i)))), some (.inl x)] [.inl (t2_rb (t2_partOf_v (t2_heldTo_v x (0 : Int32) ((f (198 + 4 * i) 0) * (3600 : Int32))) ((f (198 + 4 * i) 0) * (3600 : Int32)))), .inr (.inr (.inl (66, 198 + 4 * i)))] (fl_row f (198 + 4 * i) (upd (upd (f (198 + 4 * i)) 2 (t2_heldTo_v x (0 : Int32) ((f (198 + 4 * i) 0) * (3600 : Int32)))) 3 (t2_partOf_v (t2_heldTo_v x (0 : Int32) ((f (198 + 4 * i) 0) * (3600 : Int32))) ((f (198 + 4 * i) 0) * (3600 : Int32)))), l) _
  refine fl_Tq.pfV (k := 4) (m' := (fl_row f (198 + 4 * i) (upd (upd (upd (f (198 + 4 * i)) 2 (t2_heldTo_v x (0 : Int32) ((f (198 + 4 * i) 0) * (3600 : Int32)))) 3 (t2_partOf_v (t2_heldTo_v x (0 : Int32) ((f (198 + 4 * i) 0) * (3600 : Int32))) ((f (198 + 4 * i) 0) * (3600 : Int32)))) 4 (t2_rb (t2_partOf_v (t2_heldTo_v x (0 : Int32) ((f (198 + 4 * i) 0) * (3600 : Int32))) ((f (198 + 4 * i) 0) * (3600 : Int32))))), l)) rfl (fl_oks_ok ⟨True.intro, t2_kc2 hi, True.intro⟩) rfl (t2_upr) ?_
  exact fl_Tq.ret rfl rfl rfl k
noncomputable def c2_takeOrGive_m (f : t2_F) (i : Nat) (x : Int32) : t2_F := c2_putReckoned_m (c2_putCharge_m f i ((f (198 + 4 * i) 2) + x)) i (((c2_putCharge_m f i ((f (198 + 4 * i) 2) + x)) (198 + 4 * i) 8) + x)
theorem c2_takeOrGive_fr {f : t2_F} {i : Nat} {x : Int32} {p : Nat} (e0 : p ≠ 198 + 4 * i) : c2_takeOrGive_m f i x p = f p := by
  unfold c2_takeOrGive_m
  repeat' split
  all_goals first | rfl | simp only [fl_row_ne e0, c2_putReckoned_fr e0, c2_putCharge_fr e0]
theorem c2_takeOrGive_q {L : Nat} {xs : Nat → Int32} {f : t2_F} {l : t2_L} {Q : Option fl_V → fl_M → Prop} {i : Nat} {x : Int32} (hi : i < 16) (hk : t2_cap (f (198 + 4 * i) 0)) (k : Q none (c2_takeOrGive_m f i x, l)) : fl_Tq (pw_P L xs) 13 0 (fl_args (am_mxl (pw_P L xs) 13) [.inr (.inr (.inl (66, 198 + 4 * i))), .inl x]) [] (f, l) Q := by
  refine fl_Tq.stp (pc' := 1) (lv' := [some (.inr (.inr (.inl (66, 198 + 4 * i)))), some (.inl x)]) (st' := [.inr (.inr (.inl (66, 198 + 4 * i)))]) (m' := (f, l)) rfl rfl (fl_bo rfl) rfl ?_
  refine fl_Tq.stp (pc' := 2) (lv' := [some (.inr (.inr (.inl (66, 198 + 4 * i)))), some (.inl x)]) (st' := [.inr (.inr (.inl (66, 198 + 4 * i))), .inr (.inr (.inl (66, 198 + 4 * i)))]) (m' := (f, l)) rfl rfl (fl_oks_ok ⟨t2_kc2 hi, True.intro⟩) rfl ?_
  refine fl_Tq.gfV (k := 2) (v := f (198 + 4 * i) 2) rfl (fl_oks_ok ⟨t2_kc2 hi, t2_kc2 hi, True.intro⟩) rfl rfl ?_
  refine fl_Tq.stp (pc' := 6) (lv' := [some (.inr (.inr (.inl (66, 198 + 4 * i)))), some (.inl x)]) (st' := [.inl x, .inl (f (198 + 4 * i) 2), .inr (.inr (.inl (66, 198 + 4 * i)))]) (m' := (f, l)) rfl rfl (fl_oks_ok ⟨True.intro, t2_kc2 hi, True.intro⟩) rfl ?_
  refine fl_Tq.stp (pc' := 7) (lv' := [some (.inr (.inr (.inl (66, 198 + 4 * i)))), some (.inl x)]) (st' := [.inl ((f (198 + 4 * i) 2) + x), .inr (.inr (.inl (66, 198 + 4 * i)))]) (m' := (f, l)) rfl rfl (fl_oks_ok ⟨True.intro, True.intro, t2_kc2 hi, True.intro⟩) rfl ?_
  refine fl_Tq.cal rfl rfl (fl_oks_ok ⟨True.intro, t2_kc2 hi, True.intro⟩) rfl ?_
  refine c2_putCharge_q hi hk ?_
  show fl_Tq _ 13 10 [some (.inr (.inr (.inl (66, 198 + 4 * i)))), some (.inl x)] [] (c2_putCharge_m f i ((f (198 + 4 * i) 2) + x), l) _
  refine fl_Tq.stp (pc' := 11) (lv' := [some (.inr (.inr (.inl (66, 198 + 4 * i)))), some (.inl x)]) (st' := [.inr (.inr (.inl (66, 198 + 4 * i)))]) (m' := (c2_putCharge_m f i ((f (198 + 4 * i) 2) + x), l)) rfl rfl (fl_bo rfl) rfl ?_
  refine fl_Tq.stp (pc' := 12) (lv' := [some (.inr (.inr (.inl (66, 198 + 4 * i)))), some (.inl x)]) (st' := [.inr (.inr (.inl (66, 198 + 4 * i))), .inr (.inr (.inl (66, 198 + 4 * i)))]) (m' := (c2_putCharge_m f i ((f (198 + 4 * i) 2) + x), l)) rfl rfl (fl_oks_ok ⟨t2_kc2 hi, True.intro⟩) rfl ?_
  refine fl_Tq.gfV (k := 8) (v := (c2_putCharge_m f i ((f (198 + 4 * i) 2) + x)) (198 + 4 * i) 8) rfl (fl_oks_ok ⟨t2_kc2 hi, t2_kc2 hi, True.intro⟩) rfl rfl ?_
  refine fl_Tq.stp (pc' := 16) (lv' := [some (.inr (.inr (.inl (66, 198 + 4 * i)))), some (.inl x)]) (st' := [.inl x, .inl ((c2_putCharge_m f i ((f (198 + 4 * i) 2) + x)) (198 + 4 * i) 8), .inr (.inr (.inl (66, 198 + 4 * i)))]) (m' := (c2_putCharge_m f i ((f (198 + 4 * i) 2) + x), l)) rfl rfl (fl_oks_ok ⟨True.intro, t2_kc2 hi, True.intro⟩) rfl ?_
  refine fl_Tq.stp (pc' := 17) (lv' := [some (.inr (.inr (.inl (66, 198 + 4 * i)))), some (.inl x)]) (st' := [.inl (((c2_putCharge_m f i ((f (198 + 4 * i) 2) + x)) (198 + 4 * i) 8) + x), .inr (.inr (.inl (66, 198 + 4 * i)))]) (m' := (c2_putCharge_m f i ((f (198 + 4 * i) 2) + x), l)) rfl rfl (fl_oks_ok ⟨True.intro, True.intro, t2_kc2 hi, True.intro⟩) rfl ?_
  refine fl_Tq.cal rfl rfl (fl_oks_ok ⟨True.intro, t2_kc2 hi, True.intro⟩) rfl ?_
  refine c2_putReckoned_q hi ?_
  show fl_Tq _ 13 20 [some (.inr (.inr (.inl (66, 198 + 4 * i)))), some (.inl x)] [] (c2_putReckoned_m (c2_putCharge_m f i ((f (198 + 4 * i) 2) + x)) i (((c2_putCharge_m f i ((f (198 + 4 * i) 2) + x)) (198 + 4 * i) 8) + x), l) _
  exact fl_Tq.ret rfl rfl rfl k
noncomputable def c2_giveShunt_v (f : t2_F) (i : Nat) (x : Int32) : Int32 := t2_min_v x (f (198 + 4 * i) 2)
noncomputable def c2_giveShunt_m (f : t2_F) (i : Nat) (x : Int32) : t2_F := c2_putReckoned_m (c2_putCharge_m f i ((f (198 + 4 * i) 2) - (t2_min_v x (f (198 + 4 * i) 2)))) i (((c2_putCharge_m f i ((f (198 + 4 * i) 2) - (t2_min_v x (f (198 + 4 * i) 2)))) (198 + 4 * i) 8) - x)
theorem c2_giveShunt_fr {f : t2_F} {i : Nat} {x : Int32} {p : Nat} (e0 : p ≠ 198 + 4 * i) : c2_giveShunt_m f i x p = f p := by
  unfold c2_giveShunt_m
  repeat' split
  all_goals first | rfl | simp only [fl_row_ne e0, c2_putReckoned_fr e0, c2_putCharge_fr e0]
theorem c2_giveShunt_q {L : Nat} {xs : Nat → Int32} {f : t2_F} {l : t2_L} {Q : Option fl_V → fl_M → Prop} {i : Nat} {x : Int32} (hi : i < 16) (hk : t2_cap (f (198 + 4 * i) 0)) (k : Q (some (.inl (c2_giveShunt_v f i x))) (c2_giveShunt_m f i x, l)) : fl_Tq (pw_P L xs) 12 0 (fl_args (am_mxl (pw_P L xs) 12) [.inr (.inr (.inl (66, 198 + 4 * i))), .inl x]) [] (f, l) Q := by
  refine fl_Tq.stp (pc' := 1) (lv' := [some (.inr (.inr (.inl (66, 198 + 4 * i)))), some (.inl x), none]) (st' := [.inl x]) (m' := (f, l)) rfl rfl (fl_bo rfl) rfl ?_
  refine fl_Tq.stp (pc' := 2) (lv' := [some (.inr (.inr (.inl (66, 198 + 4 * i)))), some (.inl x), none]) (st' := [.inr (.inr (.inl (66, 198 + 4 * i))), .inl x]) (m' := (f, l)) rfl rfl (fl_bo rfl) rfl ?_
  refine fl_Tq.gfV (k := 2) (v := f (198 + 4 * i) 2) rfl (fl_oks_ok ⟨t2_kc2 hi, True.intro, True.intro⟩) rfl rfl ?_
  refine fl_Tq.cal rfl rfl (fl_bo rfl) rfl ?_
  refine t2_min_q  ?_
  show fl_Tq _ 12 8 [some (.inr (.inr (.inl (66, 198 + 4 * i)))), some (.inl x), none] [.inl (t2_min_v x (f (198 + 4 * i) 2))] (f, l) _
  refine fl_Tq.stp (pc' := 9) (lv' := [some (.inr (.inr (.inl (66, 198 + 4 * i)))), some (.inl x), some (.inl (t2_min_v x (f (198 + 4 * i) 2)))]) (st' := []) (m' := (f, l)) rfl rfl (fl_bo rfl) rfl ?_
  refine fl_Tq.stp (pc' := 10) (lv' := [some (.inr (.inr (.inl (66, 198 + 4 * i)))), some (.inl x), some (.inl (t2_min_v x (f (198 + 4 * i) 2)))]) (st' := [.inr (.inr (.inl (66, 198 + 4 * i)))]) (m' := (f, l)) rfl rfl (fl_bo rfl) rfl ?_
  refine fl_Tq.stp (pc' := 11) (lv' := [some (.inr (.inr (.inl (66, 198 + 4 * i)))), some (.inl x), some (.inl (t2_min_v x (f (198 + 4 * i) 2)))]) (st' := [.inr (.inr (.inl (66, 198 + 4 * i))), .inr (.inr (.inl (66, 198 + 4 * i)))]) (m' := (f, l)) rfl rfl (fl_oks_ok ⟨t2_kc2 hi, True.intro⟩) rfl ?_
  refine fl_Tq.gfV (k := 2) (v := f (198 + 4 * i) 2) rfl (fl_oks_ok ⟨t2_kc2 hi, t2_kc2 hi, True.intro⟩) rfl rfl ?_
  refine fl_Tq.stp (pc' := 15) (lv' := [some (.inr (.inr (.inl (66, 198 + 4 * i)))), some (.inl x), some (.inl (t2_min_v x (f (198 + 4 * i) 2)))]) (st' := [.inl (t2_min_v x (f (198 + 4 * i) 2)), .inl (f (198 + 4 * i) 2), .inr (.inr (.inl (66, 198 + 4 * i)))]) (m' := (f, l)) rfl rfl (fl_oks_ok ⟨True.intro, t2_kc2 hi, True.intro⟩) rfl ?_
  refine fl_Tq.stp (pc' := 16) (lv' := [some (.inr (.inr (.inl (66, 198 + 4 * i)))), some (.inl x), some (.inl (t2_min_v x (f (198 + 4 * i) 2)))]) (st' := [.inl ((f (198 + 4 * i) 2) - (t2_min_v x (f (198 + 4 * i) 2))), .inr (.inr (.inl (66, 198 + 4 * i)))]) (m' := (f, l)) rfl rfl (fl_oks_ok ⟨True.intro, True.intro, t2_kc2 hi, True.intro⟩) rfl ?_
  refine fl_Tq.cal rfl rfl (fl_oks_ok ⟨True.intro, t2_kc2 hi, True.intro⟩) rfl ?_
  refine c2_putCharge_q hi hk ?_
  show fl_Tq _ 12 19 [some (.inr (.inr (.inl (66, 198 + 4 * i)))), some (.inl x), some (.inl (t2_min_v x (f (198 + 4 * i) 2)))] [] (c2_putCharge_m f i ((f (198 + 4 * i) 2) - (t2_min_v x (f (198 + 4 * i) 2))), l) _
  refine fl_Tq.stp (pc' := 20) (lv' := [some (.inr (.inr (.inl (66, 198 + 4 * i)))), some (.inl x), some (.inl (t2_min_v x (f (198 + 4 * i) 2)))]) (st' := [.inr (.inr (.inl (66, 198 + 4 * i)))]) (m' := (c2_putCharge_m f i ((f (198 + 4 * i) 2) - (t2_min_v x (f (198 + 4 * i) 2))), l)) rfl rfl (fl_bo rfl) rfl ?_
  refine fl_Tq.stp (pc' := 21) (lv' := [some (.inr (.inr (.inl (66, 198 + 4 * i)))), some (.inl x), some (.inl (t2_min_v x (f (198 + 4 * i) 2)))]) (st' := [.inr (.inr (.inl (66, 198 + 4 * i))), .inr (.inr (.inl (66, 198 + 4 * i)))]) (m' := (c2_putCharge_m f i ((f (198 + 4 * i) 2) - (t2_min_v x (f (198 + 4 * i) 2))), l)) rfl rfl (fl_oks_ok ⟨t2_kc2 hi, True.intro⟩) rfl ?_
  refine fl_Tq.gfV (k := 8) (v := (c2_putCharge_m f i ((f (198 + 4 * i) 2) - (t2_min_v x (f (198 + 4 * i) 2)))) (198 + 4 * i) 8) rfl (fl_oks_ok ⟨t2_kc2 hi, t2_kc2 hi, True.intro⟩) rfl rfl ?_
  refine fl_Tq.stp (pc' := 25) (lv' := [some (.inr (.inr (.inl (66, 198 + 4 * i)))), some (.inl x), some (.inl (t2_min_v x (f (198 + 4 * i) 2)))]) (st' := [.inl x, .inl ((c2_putCharge_m f i ((f (198 + 4 * i) 2) - (t2_min_v x (f (198 + 4 * i) 2)))) (198 + 4 * i) 8), .inr (.inr (.inl (66, 198 + 4 * i)))]) (m' := (c2_putCharge_m f i ((f (198 + 4 * i) 2) - (t2_min_v x (f (198 + 4 * i) 2))), l)) rfl rfl (fl_oks_ok ⟨True.intro, t2_kc2 hi, True.intro⟩) rfl ?_
  refine fl_Tq.stp (pc' := 26) (lv' := [some (.inr (.inr (.inl (66, 198 + 4 * i)))), some (.inl x), some (.inl (t2_min_v x (f (198 + 4 * i) 2)))]) (st' := [.inl (((c2_putCharge_m f i ((f (198 + 4 * i) 2) - (t2_min_v x (f (198 + 4 * i) 2)))) (198 + 4 * i) 8) - x), .inr (.inr (.inl (66, 198 + 4 * i)))]) (m' := (c2_putCharge_m f i ((f (198 + 4 * i) 2) - (t2_min_v x (f (198 + 4 * i) 2))), l)) rfl rfl (fl_oks_ok ⟨True.intro, True.intro, t2_kc2 hi, True.intro⟩) rfl ?_
  refine fl_Tq.cal rfl rfl (fl_oks_ok ⟨True.intro, t2_kc2 hi, True.intro⟩) rfl ?_
  refine c2_putReckoned_q hi ?_
  show fl_Tq _ 12 29 [some (.inr (.inr (.inl (66, 198 + 4 * i)))), some (.inl x), some (.inl (t2_min_v x (f (198 + 4 * i) 2)))] [] (c2_putReckoned_m (c2_putCharge_m f i ((f (198 + 4 * i) 2) - (t2_min_v x (f (198 + 4 * i) 2)))) i (((c2_putCharge_m f i ((f (198 + 4 * i) 2) - (t2_min_v x (f (198 + 4 * i) 2)))) (198 + 4 * i) 8) - x), l) _
  refine fl_Tq.stp (pc' := 30) (lv' := [some (.inr (.inr (.inl (66, 198 + 4 * i)))), some (.inl x), some (.inl (t2_min_v x (f (198 + 4 * i) 2)))]) (st' := [.inl (t2_min_v x (f (198 + 4 * i) 2))]) (m' := (c2_putReckoned_m (c2_putCharge_m f i ((f (198 + 4 * i) 2) - (t2_min_v x (f (198 + 4 * i) 2)))) i (((c2_putCharge_m f i ((f (198 + 4 * i) 2) - (t2_min_v x (f (198 + 4 * i) 2)))) (198 + 4 * i) 8) - x), l)) rfl rfl (fl_bo rfl) rfl ?_
  exact fl_Tq.ret rfl rfl rfl k
noncomputable def c2_wear_m (f : t2_F) (i : Nat) (x : Int32) : t2_F := if 0 < (x * (3600 : Int32)).toInt then (if (f (198 + 4 * i) 9).toInt < (x * (3600 : Int32)).toInt then f else c2_putReckoned_m (fl_row f (198 + 4 * i) (upd (upd (f (198 + 4 * i)) 0 (t2_max_v (100 : Int32) ((f (198 + 4 * i) 0) - ((f (198 + 4 * i) 9) / (x * (3600 : Int32)))))) 9 ((f (198 + 4 * i) 9) - (f (198 + 4 * i) 9) / (x * (3600 : Int32)) * (x * (3600 : Int32))))) i (f (198 + 4 * i) 8)) else f
theorem c2_wear_fr {f : t2_F} {i : Nat} {x : Int32} {p : Nat} (e0 : p ≠ 198 + 4 * i) : c2_wear_m f i x p = f p := by
  unfold c2_wear_m
  repeat' split
  all_goals first | rfl | simp only [fl_row_ne e0, c2_putReckoned_fr e0]
theorem c2_wear_q {L : Nat} {xs : Nat → Int32} {f : t2_F} {l : t2_L} {Q : Option fl_V → fl_M → Prop} {i : Nat} {x : Int32} (hi : i < 16) (k : Q none (c2_wear_m f i x, l)) : fl_Tq (pw_P L xs) 11 0 (fl_args (am_mxl (pw_P L xs) 11) [.inr (.inr (.inl (66, 198 + 4 * i))), .inl x]) [] (f, l) Q := by
  refine fl_Tq.stp (pc' := 1) (lv' := [some (.inr (.inr (.inl (66, 198 + 4 * i)))), some (.inl x), none]) (st' := [.inl x]) (m' := (f, l)) rfl rfl (fl_bo rfl) rfl ?_
  refine fl_Tq.cS (c := (3600 : Int32)) rfl (by decide +kernel) (fl_bo rfl) ?_
  refine fl_Tq.stp (pc' := 5) (lv' := [some (.inr (.inr (.inl (66, 198 + 4 * i)))), some (.inl x), none]) (st' := [.inl (x * (3600 : Int32))]) (m' := (f, l)) rfl rfl (fl_bo rfl) rfl ?_
  refine fl_Tq.stp (pc' := 6) (lv' := [some (.inr (.inr (.inl (66, 198 + 4 * i)))), some (.inl x), some (.inl (x * (3600 : Int32)))]) (st' := []) (m' := (f, l)) rfl rfl (fl_bo rfl) rfl ?_
  refine fl_Tq.stp (pc' := 7) (lv' := [some (.inr (.inr (.inl (66, 198 + 4 * i)))), some (.inl x), some (.inl (x * (3600 : Int32)))]) (st' := [.inl (x * (3600 : Int32))]) (m' := (f, l)) rfl rfl (fl_bo rfl) rfl ?_
  by_cases h1 : 0 < (x * (3600 : Int32)).toInt
  · refine fl_Tq.zf rfl (fl_bo rfl) (c1_le_f h1) rfl ?_
    refine fl_Tq.stp (pc' := 11) (lv' := [some (.inr (.inr (.inl (66, 198 + 4 * i)))), some (.inl x), some (.inl (x * (3600 : Int32)))]) (st' := [.inr (.inr (.inl (66, 198 + 4 * i)))]) (m' := (f, l)) rfl rfl (fl_bo rfl) rfl ?_
    refine fl_Tq.gfV (k := 9) (v := f (198 + 4 * i) 9) rfl (fl_oks_ok ⟨t2_kc2 hi, True.intro⟩) rfl rfl ?_
    refine fl_Tq.stp (pc' := 15) (lv' := [some (.inr (.inr (.inl (66, 198 + 4 * i)))), some (.inl x), some (.inl (x * (3600 : Int32)))]) (st' := [.inl (x * (3600 : Int32)), .inl (f (198 + 4 * i) 9)]) (m' := (f, l)) rfl rfl (fl_bo rfl) rfl ?_
    by_cases h2 : (f (198 + 4 * i) 9).toInt < (x * (3600 : Int32)).toInt
    · refine fl_Tq.jf rfl (fl_bo rfl) (c2_ge_f h2) rfl ?_
      refine fl_Tq.ret rfl rfl rfl ?_
      unfold c2_wear_m at k
      simp only [if_pos h1, if_pos h2] at k
      exact k
    · refine fl_Tq.jt rfl (fl_bo rfl) (c2_ge_t h2) rfl ?_
      refine fl_Tq.stp (pc' := 20) (lv' := [some (.inr (.inr (.inl (66, 198 + 4 * i)))), some (.inl x), some (.inl (x * (3600 : Int32)))]) (st' := [.inr (.inr (.inl (66, 198 + 4 * i)))]) (m' := (f, l)) rfl rfl (fl_bo rfl) rfl ?_
      refine fl_Tq.cB (c := (100 : Int32)) rfl (by decide +kernel) (fl_oks_ok ⟨t2_kc2 hi, True.intro⟩) ?_
      refine fl_Tq.stp (pc' := 23) (lv' := [some (.inr (.inr (.inl (66, 198 + 4 * i)))), some (.inl x), some (.inl (x * (3600 : Int32)))]) (st' := [.inr (.inr (.inl (66, 198 + 4 * i))), .inl (100 : Int32), .inr (.inr (.inl (66, 198 + 4 * i)))]) (m' := (f, l)) rfl rfl (fl_oks_ok ⟨True.intro, t2_kc2 hi, True.intro⟩) rfl ?_
      refine fl_Tq.gfV (k := 0) (v := f (198 + 4 * i) 0) rfl (fl_oks_ok ⟨t2_kc2 hi, True.intro, t2_kc2 hi, True.intro⟩) rfl rfl ?_
      refine fl_Tq.stp (pc' := 27) (lv' := [some (.inr (.inr (.inl (66, 198 + 4 * i)))), some (.inl x), some (.inl (x * (3600 : Int32)))]) (st' := [.inr (.inr (.inl (66, 198 + 4 * i))), .inl (f (198 + 4 * i) 0), .inl (100 : Int32), .inr (.inr (.inl (66, 198 + 4 * i)))]) (m' := (f, l)) rfl rfl (fl_oks_ok ⟨True.intro, True.intro, t2_kc2 hi, True.intro⟩) rfl ?_
      refine fl_Tq.gfV (k := 9) (v := f (198 + 4 * i) 9) rfl (fl_oks_ok ⟨t2_kc2 hi, True.intro, True.intro, t2_kc2 hi, True.intro⟩) rfl rfl ?_
      refine fl_Tq.stp (pc' := 31) (lv' := [some (.inr (.inr (.inl (66, 198 + 4 * i)))), some (.inl x), some (.inl (x * (3600 : Int32)))]) (st' := [.inl (x * (3600 : Int32)), .inl (f (198 + 4 * i) 9), .inl (f (198 + 4 * i) 0), .inl (100 : Int32), .inr (.inr (.inl (66, 198 + 4 * i)))]) (m' := (f, l)) rfl rfl (fl_oks_ok ⟨True.intro, True.intro, True.intro, t2_kc2 hi, True.intro⟩) rfl ?_
      refine fl_Tq.dv rfl (fl_oks_ok ⟨True.intro, True.intro, True.intro, True.intro, t2_kc2 hi, True.intro⟩) (t2_nzp h1) ?_
      refine fl_Tq.stp (pc' := 33) (lv' := [some (.inr (.inr (.inl (66, 198 + 4 * i)))), some (.inl x), some (.inl (x * (3600 : Int32)))]) (st' := [.inl ((f (198 + 4 * i) 0) - ((f (198 + 4 * i) 9) / (x * (3600 : Int32)))), .inl (100 : Int32), .inr (.inr (.inl (66, 198 + 4 * i)))]) (m' := (f, l)) rfl rfl (fl_oks_ok ⟨True.intro, True.intro, True.intro, t2_kc2 hi, True.intro⟩) rfl ?_
      refine fl_Tq.cal rfl rfl (fl_oks_ok ⟨True.intro, True.intro, t2_kc2 hi, True.intro⟩) rfl ?_
      refine t2_max_q  ?_
      show fl_Tq _ 11 36 [some (.inr (.inr (.inl (66, 198 + 4 * i)))), some (.inl x), some (.inl (x * (3600 : Int32)))] [.inl (t2_max_v (100 : Int32) ((f (198 + 4 * i) 0) - ((f (198 + 4 * i) 9) / (x * (3600 : Int32))))), .inr (.inr (.inl (66, 198 + 4 * i)))] (f, l) _
      refine fl_Tq.pfV (k := 0) (m' := (fl_row f (198 + 4 * i) (upd (f (198 + 4 * i)) 0 (t2_max_v (100 : Int32) ((f (198 + 4 * i) 0) - ((f (198 + 4 * i) 9) / (x * (3600 : Int32)))))), l)) rfl (fl_oks_ok ⟨True.intro, t2_kc2 hi, True.intro⟩) rfl (t2_upn rfl) ?_
      refine fl_Tq.stp (pc' := 40) (lv' := [some (.inr (.inr (.inl (66, 198 + 4 * i)))), some (.inl x), some (.inl (x * (3600 : Int32)))]) (st' := [.inr (.inr (.inl (66, 198 + 4 * i)))]) (m' := (fl_row f (198 + 4 * i) (upd (f (198 + 4 * i)) 0 (t2_max_v (100 : Int32) ((f (198 + 4 * i) 0) - ((f (198 + 4 * i) 9) / (x * (3600 : Int32)))))), l)) rfl rfl (fl_bo rfl) rfl ?_
      refine fl_Tq.stp (pc' := 41) (lv' := [some (.inr (.inr (.inl (66, 198 + 4 * i)))), some (.inl x), some (.inl (x * (3600 : Int32)))]) (st' := [.inr (.inr (.inl (66, 198 + 4 * i))), .inr (.inr (.inl (66, 198 + 4 * i)))]) (m' := (fl_row f (198 + 4 * i) (upd (f (198 + 4 * i)) 0 (t2_max_v (100 : Int32) ((f (198 + 4 * i) 0) - ((f (198 + 4 * i) 9) / (x * (3600 : Int32)))))), l)) rfl rfl (fl_oks_ok ⟨t2_kc2 hi, True.intro⟩) rfl ?_
      refine fl_Tq.gfV (k := 9) (v := f (198 + 4 * i) 9) rfl (fl_oks_ok ⟨t2_kc2 hi, t2_kc2 hi, True.intro⟩) rfl (by simp only [fl_row_self, upd_ne (by decide : 9 ≠ 0)]) ?_
      refine fl_Tq.stp (pc' := 45) (lv' := [some (.inr (.inr (.inl (66, 198 + 4 * i)))), some (.inl x), some (.inl (x * (3600 : Int32)))]) (st' := [.inl (x * (3600 : Int32)), .inl (f (198 + 4 * i) 9), .inr (.inr (.inl (66, 198 + 4 * i)))]) (m' := (fl_row f (198 + 4 * i) (upd (f (198 + 4 * i)) 0 (t2_max_v (100 : Int32) ((f (198 + 4 * i) 0) - ((f (198 + 4 * i) 9) / (x * (3600 : Int32)))))), l)) rfl rfl (fl_oks_ok ⟨True.intro, t2_kc2 hi, True.intro⟩) rfl ?_
      refine fl_Tq.rm rfl (fl_oks_ok ⟨True.intro, True.intro, t2_kc2 hi, True.intro⟩) (t2_nzp h1) ?_
      refine fl_Tq.pfV (k := 9) (m' := (fl_row f (198 + 4 * i) (upd (upd (f (198 + 4 * i)) 0 (t2_max_v (100 : Int32) ((f (198 + 4 * i) 0) - ((f (198 + 4 * i) 9) / (x * (3600 : Int32)))))) 9 ((f (198 + 4 * i) 9) - (f (198 + 4 * i) 9) / (x * (3600 : Int32)) * (x * (3600 : Int32)))), l)) rfl (fl_oks_ok ⟨True.intro, t2_kc2 hi, True.intro⟩) rfl (t2_upr) ?_
      refine fl_Tq.stp (pc' := 50) (lv' := [some (.inr (.inr (.inl (66, 198 + 4 * i)))), some (.inl x), some (.inl (x * (3600 : Int32)))]) (st' := [.inr (.inr (.inl (66, 198 + 4 * i)))]) (m' := (fl_row f (198 + 4 * i) (upd (upd (f (198 + 4 * i)) 0 (t2_max_v (100 : Int32) ((f (198 + 4 * i) 0) - ((f (198 + 4 * i) 9) / (x * (3600 : Int32)))))) 9 ((f (198 + 4 * i) 9) - (f (198 + 4 * i) 9) / (x * (3600 : Int32)) * (x * (3600 : Int32)))), l)) rfl rfl (fl_bo rfl) rfl ?_
      refine fl_Tq.stp (pc' := 51) (lv' := [some (.inr (.inr (.inl (66, 198 + 4 * i)))), some (.inl x), some (.inl (x * (3600 : Int32)))]) (st' := [.inr (.inr (.inl (66, 198 + 4 * i))), .inr (.inr (.inl (66, 198 + 4 * i)))]) (m' := (fl_row f (198 + 4 * i) (upd (upd (f (198 + 4 * i)) 0 (t2_max_v (100 : Int32) ((f (198 + 4 * i) 0) - ((f (198 + 4 * i) 9) / (x * (3600 : Int32)))))) 9 ((f (198 + 4 * i) 9) - (f (198 + 4 * i) 9) / (x * (3600 : Int32)) * (x * (3600 : Int32)))), l)) rfl rfl (fl_oks_ok ⟨t2_kc2 hi, True.intro⟩) rfl ?_
      refine fl_Tq.gfV (k := 8) (v := f (198 + 4 * i) 8) rfl (fl_oks_ok ⟨t2_kc2 hi, t2_kc2 hi, True.intro⟩) rfl (by simp only [fl_row_self, upd_ne (by decide : 8 ≠ 9), upd_ne (by decide : 8 ≠ 0)]) ?_
      refine fl_Tq.cal rfl rfl (fl_oks_ok ⟨True.intro, t2_kc2 hi, True.intro⟩) rfl ?_
      refine c2_putReckoned_q hi ?_
      show fl_Tq _ 11 57 [some (.inr (.inr (.inl (66, 198 + 4 * i)))), some (.inl x), some (.inl (x * (3600 : Int32)))] [] (c2_putReckoned_m (fl_row f (198 + 4 * i) (upd (upd (f (198 + 4 * i)) 0 (t2_max_v (100 : Int32) ((f (198 + 4 * i) 0) - ((f (198 + 4 * i) 9) / (x * (3600 : Int32)))))) 9 ((f (198 + 4 * i) 9) - (f (198 + 4 * i) 9) / (x * (3600 : Int32)) * (x * (3600 : Int32))))) i (f (198 + 4 * i) 8), l) _
      refine fl_Tq.ret rfl rfl rfl ?_
      unfold c2_wear_m at k
      simp only [if_pos h1, if_neg h2] at k
      exact k
  · refine fl_Tq.zt rfl (fl_bo rfl) (c1_le_t h1) rfl ?_
    refine fl_Tq.ret rfl rfl rfl ?_
    unfold c2_wear_m at k
    simp only [if_neg h1] at k
    exact k
theorem c2_wear_cap {f : t2_F} {i : Nat} {x : Int32} (hk : t2_cap (f (198 + 4 * i) 0)) : t2_cap (c2_wear_m f i x (198 + 4 * i) 0) := by
  unfold c2_wear_m
  split
  · rename_i h1
    split
    · exact hk
    · rename_i h2
      unfold c2_putReckoned_m
      rw [fl_row_self, upd_ne (by decide : 0 ≠ 8), fl_row_self, upd_ne (by decide : 0 ≠ 9), upd_self]
      have e := at_div32 (x := f (198 + 4 * i) 9) (y := x * (3600 : Int32)) (by omega) h1
      have e0 : 0 ≤ (f (198 + 4 * i) 9).toInt / (x * (3600 : Int32)).toInt := Int.ediv_nonneg (by omega) (by omega)
      rw [← e] at e0
      generalize (f (198 + 4 * i) 9) / (x * (3600 : Int32)) = q at e0
      have b1 := at_i32 q
      obtain ⟨k1, k2⟩ := hk
      have e2 : ((f (198 + 4 * i) 0) - q).toInt = (f (198 + 4 * i) 0).toInt - q.toInt := at_sub32 (by omega) (by omega)
      have e3 : (100 : Int32).toInt = 100 := by decide +kernel
      unfold t2_max_v t2_cap
      split
      · rw [e2] at *
        omega
      · rw [e3]
        omega
  · exact hk
noncomputable def c2_pass_m (f : t2_F) (i : Nat) (x : Int32) : t2_F := c2_putReckoned_m (c2_putCharge_m (c2_wear_m (fl_row f (198 + 4 * i) (upd (upd (upd (f (198 + 4 * i)) 6 (((f (198 + 4 * i) 6) + ((((x / (1000 : Int32)) * (x / (1000 : Int32))) * (f (198 + 4 * i) 5)) / (500 : Int32))) + (((f 184 6) - ((f (198 + 4 * i) 6) + ((((x / (1000 : Int32)) * (x / (1000 : Int32))) * (f (198 + 4 * i) 5)) / (500 : Int32)))) / (32 : Int32)))) 7 ((f (198 + 4 * i) 7) + ((((x * (f 184 25)) / (1000 : Int32)) - (f (198 + 4 * i) 7)) / (8 : Int32)))) 9 ((f (198 + 4 * i) 9) + (t2_abs_v x)))) i (f 184 24)) i (t2_heldTo_v (((f (198 + 4 * i) 2) + x) - (f 184 27)) (0 : Int32) ((f (198 + 4 * i) 0) * (3600 : Int32)))) i ((((c2_putCharge_m (c2_wear_m (fl_row f (198 + 4 * i) (upd (upd (upd (f (198 + 4 * i)) 6 (((f (198 + 4 * i) 6) + ((((x / (1000 : Int32)) * (x / (1000 : Int32))) * (f (198 + 4 * i) 5)) / (500 : Int32))) + (((f 184 6) - ((f (198 + 4 * i) 6) + ((((x / (1000 : Int32)) * (x / (1000 : Int32))) * (f (198 + 4 * i) 5)) / (500 : Int32)))) / (32 : Int32)))) 7 ((f (198 + 4 * i) 7) + ((((x * (f 184 25)) / (1000 : Int32)) - (f (198 + 4 * i) 7)) / (8 : Int32)))) 9 ((f (198 + 4 * i) 9) + (t2_abs_v x)))) i (f 184 24)) i (t2_heldTo_v (((f (198 + 4 * i) 2) + x) - (f 184 27)) (0 : Int32) ((f (198 + 4 * i) 0) * (3600 : Int32)))) (198 + 4 * i) 8) + x) + (f 184 18))
theorem c2_pass_fr {f : t2_F} {i : Nat} {x : Int32} {p : Nat} (e0 : p ≠ 198 + 4 * i) : c2_pass_m f i x p = f p := by
  unfold c2_pass_m
  repeat' split
  all_goals first | rfl | simp only [fl_row_ne e0, c2_putReckoned_fr e0, c2_putCharge_fr e0, c2_wear_fr e0]
theorem c2_pass_q {L : Nat} {xs : Nat → Int32} {f : t2_F} {l : t2_L} {Q : Option fl_V → fl_M → Prop} {i : Nat} {x : Int32} (hi : i < 16) (hk : t2_cap (f (198 + 4 * i) 0)) (k : Q none (c2_pass_m f i x, l)) : fl_Tq (pw_P L xs) 10 0 (fl_args (am_mxl (pw_P L xs) 10) [.inr (.inr (.inl (66, 198 + 4 * i))), .inl x, .inr (.inr (.inl (51, 183)))]) [] (f, l) Q := by
  refine fl_Tq.stp (pc' := 1) (lv' := [some (.inr (.inr (.inl (66, 198 + 4 * i)))), some (.inl x), some (.inr (.inr (.inl (51, 183)))), none, none, none]) (st' := [.inr (.inr (.inl (51, 183)))]) (m' := (f, l)) rfl rfl (fl_bo rfl) rfl ?_
  refine fl_Tq.stp (pc' := 4) (lv' := [some (.inr (.inr (.inl (66, 198 + 4 * i)))), some (.inl x), some (.inr (.inr (.inl (51, 183)))), none, none, none]) (st' := [.inr (.inr (.inl (52, 184)))]) (m' := (f, l)) rfl rfl (fl_bo rfl) rfl ?_
  refine fl_Tq.stp (pc' := 5) (lv' := [some (.inr (.inr (.inl (66, 198 + 4 * i)))), some (.inl x), some (.inr (.inr (.inl (51, 183)))), some (.inr (.inr (.inl (52, 184)))), none, none]) (st' := []) (m' := (f, l)) rfl rfl (fl_bo rfl) rfl ?_
  refine fl_Tq.stp (pc' := 6) (lv' := [some (.inr (.inr (.inl (66, 198 + 4 * i)))), some (.inl x), some (.inr (.inr (.inl (51, 183)))), some (.inr (.inr (.inl (52, 184)))), none, none]) (st' := [.inr (.inr (.inl (66, 198 + 4 * i)))]) (m' := (f, l)) rfl rfl (fl_bo rfl) rfl ?_
  refine fl_Tq.gfV (k := 2) (v := f (198 + 4 * i) 2) rfl (fl_oks_ok ⟨t2_kc2 hi, True.intro⟩) rfl rfl ?_
  refine fl_Tq.stp (pc' := 10) (lv' := [some (.inr (.inr (.inl (66, 198 + 4 * i)))), some (.inl x), some (.inr (.inr (.inl (51, 183)))), some (.inr (.inr (.inl (52, 184)))), none, none]) (st' := [.inl x, .inl (f (198 + 4 * i) 2)]) (m' := (f, l)) rfl rfl (fl_bo rfl) rfl ?_
  refine fl_Tq.stp (pc' := 11) (lv' := [some (.inr (.inr (.inl (66, 198 + 4 * i)))), some (.inl x), some (.inr (.inr (.inl (51, 183)))), some (.inr (.inr (.inl (52, 184)))), none, none]) (st' := [.inl ((f (198 + 4 * i) 2) + x)]) (m' := (f, l)) rfl rfl (fl_bo rfl) rfl ?_
  refine fl_Tq.stp (pc' := 12) (lv' := [some (.inr (.inr (.inl (66, 198 + 4 * i)))), some (.inl x), some (.inr (.inr (.inl (51, 183)))), some (.inr (.inr (.inl (52, 184)))), none, none]) (st' := [.inr (.inr (.inl (52, 184))), .inl ((f (198 + 4 * i) 2) + x)]) (m' := (f, l)) rfl rfl (fl_bo rfl) rfl ?_
  refine fl_Tq.cB (c := (27 : Int32)) rfl (by decide +kernel) (fl_bo rfl) ?_
  refine fl_Tq.ldV (p := 184) (τ := 52) (n := 30) (z := (0, 0, 0)) (k := 27) (v := f 184 27) rfl (fl_bo rfl) rfl (by decide +kernel) (by decide) rfl ?_
  refine fl_Tq.stp (pc' := 16) (lv' := [some (.inr (.inr (.inl (66, 198 + 4 * i)))), some (.inl x), some (.inr (.inr (.inl (51, 183)))), some (.inr (.inr (.inl (52, 184)))), none, none]) (st' := [.inl (((f (198 + 4 * i) 2) + x) - (f 184 27))]) (m' := (f, l)) rfl rfl (fl_bo rfl) rfl ?_
  refine fl_Tq.cI (c := (0 : Int32)) rfl (by decide +kernel) (fl_bo rfl) ?_
  refine fl_Tq.stp (pc' := 18) (lv' := [some (.inr (.inr (.inl (66, 198 + 4 * i)))), some (.inl x), some (.inr (.inr (.inl (51, 183)))), some (.inr (.inr (.inl (52, 184)))), none, none]) (st' := [.inr (.inr (.inl (66, 198 + 4 * i))), .inl (0 : Int32), .inl (((f (198 + 4 * i) 2) + x) - (f 184 27))]) (m' := (f, l)) rfl rfl (fl_bo rfl) rfl ?_
  refine fl_Tq.cal rfl rfl (fl_oks_ok ⟨t2_kc2 hi, True.intro, True.intro, True.intro⟩) rfl ?_
  refine fl_Tq.stp (pc' := 1) (lv' := [some (.inr (.inr (.inl (66, 198 + 4 * i))))]) (st' := [.inr (.inr (.inl (66, 198 + 4 * i)))]) (m' := (f, l)) rfl rfl (fl_bo rfl) rfl ?_
  refine fl_Tq.gfV (k := 0) (v := f (198 + 4 * i) 0) rfl (fl_oks_ok ⟨t2_kc2 hi, True.intro⟩) rfl rfl ?_
  refine fl_Tq.cS (c := (3600 : Int32)) rfl (by decide +kernel) (fl_bo rfl) ?_
  refine fl_Tq.stp (pc' := 8) (lv' := [some (.inr (.inr (.inl (66, 198 + 4 * i))))]) (st' := [.inl ((f (198 + 4 * i) 0) * (3600 : Int32))]) (m' := (f, l)) rfl rfl (fl_bo rfl) rfl ?_
  refine fl_Tq.ret rfl rfl rfl ?_
  show fl_Tq _ 10 21 [some (.inr (.inr (.inl (66, 198 + 4 * i)))), some (.inl x), some (.inr (.inr (.inl (51, 183)))), some (.inr (.inr (.inl (52, 184)))), none, none] [.inl ((f (198 + 4 * i) 0) * (3600 : Int32)), .inl (0 : Int32), .inl (((f (198 + 4 * i) 2) + x) - (f 184 27))] (f, l) _
  refine fl_Tq.cal rfl rfl (fl_bo rfl) rfl ?_
  refine t2_heldTo_q  ?_
  show fl_Tq _ 10 24 [some (.inr (.inr (.inl (66, 198 + 4 * i)))), some (.inl x), some (.inr (.inr (.inl (51, 183)))), some (.inr (.inr (.inl (52, 184)))), none, none] [.inl (t2_heldTo_v (((f (198 + 4 * i) 2) + x) - (f 184 27)) (0 : Int32) ((f (198 + 4 * i) 0) * (3600 : Int32)))] (f, l) _
  refine fl_Tq.stp (pc' := 26) (lv' := [some (.inr (.inr (.inl (66, 198 + 4 * i)))), some (.inl x), some (.inr (.inr (.inl (51, 183)))), some (.inr (.inr (.inl (52, 184)))), some (.inl (t2_heldTo_v (((f (198 + 4 * i) 2) + x) - (f 184 27)) (0 : Int32) ((f (198 + 4 * i) 0) * (3600 : Int32)))), none]) (st' := []) (m' := (f, l)) rfl rfl (fl_bo rfl) rfl ?_
  refine fl_Tq.stp (pc' := 27) (lv' := [some (.inr (.inr (.inl (66, 198 + 4 * i)))), some (.inl x), some (.inr (.inr (.inl (51, 183)))), some (.inr (.inr (.inl (52, 184)))), some (.inl (t2_heldTo_v (((f (198 + 4 * i) 2) + x) - (f 184 27)) (0 : Int32) ((f (198 + 4 * i) 0) * (3600 : Int32)))), none]) (st' := [.inl x]) (m' := (f, l)) rfl rfl (fl_bo rfl) rfl ?_
  refine fl_Tq.cS (c := (1000 : Int32)) rfl (by decide +kernel) (fl_bo rfl) ?_
  refine fl_Tq.dv rfl (fl_bo rfl) (by decide +kernel) ?_
  refine fl_Tq.stp (pc' := 33) (lv' := [some (.inr (.inr (.inl (66, 198 + 4 * i)))), some (.inl x), some (.inr (.inr (.inl (51, 183)))), some (.inr (.inr (.inl (52, 184)))), some (.inl (t2_heldTo_v (((f (198 + 4 * i) 2) + x) - (f 184 27)) (0 : Int32) ((f (198 + 4 * i) 0) * (3600 : Int32)))), some (.inl (x / (1000 : Int32)))]) (st' := []) (m' := (f, l)) rfl rfl (fl_bo rfl) rfl ?_
  refine fl_Tq.stp (pc' := 34) (lv' := [some (.inr (.inr (.inl (66, 198 + 4 * i)))), some (.inl x), some (.inr (.inr (.inl (51, 183)))), some (.inr (.inr (.inl (52, 184)))), some (.inl (t2_heldTo_v (((f (198 + 4 * i) 2) + x) - (f 184 27)) (0 : Int32) ((f (198 + 4 * i) 0) * (3600 : Int32)))), some (.inl (x / (1000 : Int32)))]) (st' := [.inr (.inr (.inl (66, 198 + 4 * i)))]) (m' := (f, l)) rfl rfl (fl_bo rfl) rfl ?_
  refine fl_Tq.stp (pc' := 35) (lv' := [some (.inr (.inr (.inl (66, 198 + 4 * i)))), some (.inl x), some (.inr (.inr (.inl (51, 183)))), some (.inr (.inr (.inl (52, 184)))), some (.inl (t2_heldTo_v (((f (198 + 4 * i) 2) + x) - (f 184 27)) (0 : Int32) ((f (198 + 4 * i) 0) * (3600 : Int32)))), some (.inl (x / (1000 : Int32)))]) (st' := [.inr (.inr (.inl (66, 198 + 4 * i))), .inr (.inr (.inl (66, 198 + 4 * i)))]) (m' := (f, l)) rfl rfl (fl_oks_ok ⟨t2_kc2 hi, True.intro⟩) rfl ?_
  refine fl_Tq.gfV (k := 6) (v := f (198 + 4 * i) 6) rfl (fl_oks_ok ⟨t2_kc2 hi, t2_kc2 hi, True.intro⟩) rfl rfl ?_
  refine fl_Tq.stp (pc' := 40) (lv' := [some (.inr (.inr (.inl (66, 198 + 4 * i)))), some (.inl x), some (.inr (.inr (.inl (51, 183)))), some (.inr (.inr (.inl (52, 184)))), some (.inl (t2_heldTo_v (((f (198 + 4 * i) 2) + x) - (f 184 27)) (0 : Int32) ((f (198 + 4 * i) 0) * (3600 : Int32)))), some (.inl (x / (1000 : Int32)))]) (st' := [.inl (x / (1000 : Int32)), .inl (f (198 + 4 * i) 6), .inr (.inr (.inl (66, 198 + 4 * i)))]) (m' := (f, l)) rfl rfl (fl_oks_ok ⟨True.intro, t2_kc2 hi, True.intro⟩) rfl ?_
  refine fl_Tq.stp (pc' := 42) (lv' := [some (.inr (.inr (.inl (66, 198 + 4 * i)))), some (.inl x), some (.inr (.inr (.inl (51, 183)))), some (.inr (.inr (.inl (52, 184)))), some (.inl (t2_heldTo_v (((f (198 + 4 * i) 2) + x) - (f 184 27)) (0 : Int32) ((f (198 + 4 * i) 0) * (3600 : Int32)))), some (.inl (x / (1000 : Int32)))]) (st' := [.inl (x / (1000 : Int32)), .inl (x / (1000 : Int32)), .inl (f (198 + 4 * i) 6), .inr (.inr (.inl (66, 198 + 4 * i)))]) (m' := (f, l)) rfl rfl (fl_oks_ok ⟨True.intro, True.intro, t2_kc2 hi, True.intro⟩) rfl ?_
  refine fl_Tq.stp (pc' := 43) (lv' := [some (.inr (.inr (.inl (66, 198 + 4 * i)))), some (.inl x), some (.inr (.inr (.inl (51, 183)))), some (.inr (.inr (.inl (52, 184)))), some (.inl (t2_heldTo_v (((f (198 + 4 * i) 2) + x) - (f 184 27)) (0 : Int32) ((f (198 + 4 * i) 0) * (3600 : Int32)))), some (.inl (x / (1000 : Int32)))]) (st' := [.inl ((x / (1000 : Int32)) * (x / (1000 : Int32))), .inl (f (198 + 4 * i) 6), .inr (.inr (.inl (66, 198 + 4 * i)))]) (m' := (f, l)) rfl rfl (fl_oks_ok ⟨True.intro, True.intro, True.intro, t2_kc2 hi, True.intro⟩) rfl ?_
  refine fl_Tq.stp (pc' := 44) (lv' := [some (.inr (.inr (.inl (66, 198 + 4 * i)))), some (.inl x), some (.inr (.inr (.inl (51, 183)))), some (.inr (.inr (.inl (52, 184)))), some (.inl (t2_heldTo_v (((f (198 + 4 * i) 2) + x) - (f 184 27)) (0 : Int32) ((f (198 + 4 * i) 0) * (3600 : Int32)))), some (.inl (x / (1000 : Int32)))]) (st' := [.inr (.inr (.inl (66, 198 + 4 * i))), .inl ((x / (1000 : Int32)) * (x / (1000 : Int32))), .inl (f (198 + 4 * i) 6), .inr (.inr (.inl (66, 198 + 4 * i)))]) (m' := (f, l)) rfl rfl (fl_oks_ok ⟨True.intro, True.intro, t2_kc2 hi, True.intro⟩) rfl ?_
  refine fl_Tq.gfV (k := 5) (v := f (198 + 4 * i) 5) rfl (fl_oks_ok ⟨t2_kc2 hi, True.intro, True.intro, t2_kc2 hi, True.intro⟩) rfl rfl ?_
  refine fl_Tq.stp (pc' := 48) (lv' := [some (.inr (.inr (.inl (66, 198 + 4 * i)))), some (.inl x), some (.inr (.inr (.inl (51, 183)))), some (.inr (.inr (.inl (52, 184)))), some (.inl (t2_heldTo_v (((f (198 + 4 * i) 2) + x) - (f 184 27)) (0 : Int32) ((f (198 + 4 * i) 0) * (3600 : Int32)))), some (.inl (x / (1000 : Int32)))]) (st' := [.inl (((x / (1000 : Int32)) * (x / (1000 : Int32))) * (f (198 + 4 * i) 5)), .inl (f (198 + 4 * i) 6), .inr (.inr (.inl (66, 198 + 4 * i)))]) (m' := (f, l)) rfl rfl (fl_oks_ok ⟨True.intro, True.intro, True.intro, t2_kc2 hi, True.intro⟩) rfl ?_
  refine fl_Tq.cS (c := (500 : Int32)) rfl (by decide +kernel) (fl_oks_ok ⟨True.intro, True.intro, t2_kc2 hi, True.intro⟩) ?_
  refine fl_Tq.dv rfl (fl_oks_ok ⟨True.intro, True.intro, True.intro, t2_kc2 hi, True.intro⟩) (by decide +kernel) ?_
  refine fl_Tq.stp (pc' := 53) (lv' := [some (.inr (.inr (.inl (66, 198 + 4 * i)))), some (.inl x), some (.inr (.inr (.inl (51, 183)))), some (.inr (.inr (.inl (52, 184)))), some (.inl (t2_heldTo_v (((f (198 + 4 * i) 2) + x) - (f 184 27)) (0 : Int32) ((f (198 + 4 * i) 0) * (3600 : Int32)))), some (.inl (x / (1000 : Int32)))]) (st' := [.inl ((f (198 + 4 * i) 6) + ((((x / (1000 : Int32)) * (x / (1000 : Int32))) * (f (198 + 4 * i) 5)) / (500 : Int32))), .inr (.inr (.inl (66, 198 + 4 * i)))]) (m' := (f, l)) rfl rfl (fl_oks_ok ⟨True.intro, True.intro, t2_kc2 hi, True.intro⟩) rfl ?_
  refine fl_Tq.pfV (k := 6) (m' := (fl_row f (198 + 4 * i) (upd (f (198 + 4 * i)) 6 ((f (198 + 4 * i) 6) + ((((x / (1000 : Int32)) * (x / (1000 : Int32))) * (f (198 + 4 * i) 5)) / (500 : Int32)))), l)) rfl (fl_oks_ok ⟨True.intro, t2_kc2 hi, True.intro⟩) rfl (t2_upn rfl) ?_
  refine fl_Tq.stp (pc' := 57) (lv' := [some (.inr (.inr (.inl (66, 198 + 4 * i)))), some (.inl x), some (.inr (.inr (.inl (51, 183)))), some (.inr (.inr (.inl (52, 184)))), some (.inl (t2_heldTo_v (((f (198 + 4 * i) 2) + x) - (f 184 27)) (0 : Int32) ((f (198 + 4 * i) 0) * (3600 : Int32)))), some (.inl (x / (1000 : Int32)))]) (st' := [.inr (.inr (.inl (66, 198 + 4 * i)))]) (m' := (fl_row f (198 + 4 * i) (upd (f (198 + 4 * i)) 6 ((f (198 + 4 * i) 6) + ((((x / (1000 : Int32)) * (x / (1000 : Int32))) * (f (198 + 4 * i) 5)) / (500 : Int32)))), l)) rfl rfl (fl_bo rfl) rfl ?_
  refine fl_Tq.stp (pc' := 58) (lv' := [some (.inr (.inr (.inl (66, 198 + 4 * i)))), some (.inl x), some (.inr (.inr (.inl (51, 183)))), some (.inr (.inr (.inl (52, 184)))), some (.inl (t2_heldTo_v (((f (198 + 4 * i) 2) + x) - (f 184 27)) (0 : Int32) ((f (198 + 4 * i) 0) * (3600 : Int32)))), some (.inl (x / (1000 : Int32)))]) (st' := [.inr (.inr (.inl (66, 198 + 4 * i))), .inr (.inr (.inl (66, 198 + 4 * i)))]) (m' := (fl_row f (198 + 4 * i) (upd (f (198 + 4 * i)) 6 ((f (198 + 4 * i) 6) + ((((x / (1000 : Int32)) * (x / (1000 : Int32))) * (f (198 + 4 * i) 5)) / (500 : Int32)))), l)) rfl rfl (fl_oks_ok ⟨t2_kc2 hi, True.intro⟩) rfl ?_
  refine fl_Tq.gfV (k := 6) (v := (f (198 + 4 * i) 6) + ((((x / (1000 : Int32)) * (x / (1000 : Int32))) * (f (198 + 4 * i) 5)) / (500 : Int32))) rfl (fl_oks_ok ⟨t2_kc2 hi, t2_kc2 hi, True.intro⟩) rfl (by simp only [fl_row_self, upd_self]) ?_
  refine fl_Tq.stp (pc' := 62) (lv' := [some (.inr (.inr (.inl (66, 198 + 4 * i)))), some (.inl x), some (.inr (.inr (.inl (51, 183)))), some (.inr (.inr (.inl (52, 184)))), some (.inl (t2_heldTo_v (((f (198 + 4 * i) 2) + x) - (f 184 27)) (0 : Int32) ((f (198 + 4 * i) 0) * (3600 : Int32)))), some (.inl (x / (1000 : Int32)))]) (st' := [.inr (.inr (.inl (52, 184))), .inl ((f (198 + 4 * i) 6) + ((((x / (1000 : Int32)) * (x / (1000 : Int32))) * (f (198 + 4 * i) 5)) / (500 : Int32))), .inr (.inr (.inl (66, 198 + 4 * i)))]) (m' := (fl_row f (198 + 4 * i) (upd (f (198 + 4 * i)) 6 ((f (198 + 4 * i) 6) + ((((x / (1000 : Int32)) * (x / (1000 : Int32))) * (f (198 + 4 * i) 5)) / (500 : Int32)))), l)) rfl rfl (fl_oks_ok ⟨True.intro, t2_kc2 hi, True.intro⟩) rfl ?_
  refine fl_Tq.cB (c := (6 : Int32)) rfl (by decide +kernel) (fl_oks_ok ⟨fl_okp (by decide +kernel) (by decide), True.intro, t2_kc2 hi, True.intro⟩) ?_
  refine fl_Tq.ldV (p := 184) (τ := 52) (n := 30) (z := (0, 0, 0)) (k := 6) (v := f 184 6) rfl (fl_oks_ok ⟨True.intro, fl_okp (by decide +kernel) (by decide), True.intro, t2_kc2 hi, True.intro⟩) rfl (by decide +kernel) (by decide) (by simp only [fl_row_ne (show 184 ≠ 198 + 4 * i by omega)]) ?_
  refine fl_Tq.stp (pc' := 66) (lv' := [some (.inr (.inr (.inl (66, 198 + 4 * i)))), some (.inl x), some (.inr (.inr (.inl (51, 183)))), some (.inr (.inr (.inl (52, 184)))), some (.inl (t2_heldTo_v (((f (198 + 4 * i) 2) + x) - (f 184 27)) (0 : Int32) ((f (198 + 4 * i) 0) * (3600 : Int32)))), some (.inl (x / (1000 : Int32)))]) (st' := [.inr (.inr (.inl (66, 198 + 4 * i))), .inl (f 184 6), .inl ((f (198 + 4 * i) 6) + ((((x / (1000 : Int32)) * (x / (1000 : Int32))) * (f (198 + 4 * i) 5)) / (500 : Int32))), .inr (.inr (.inl (66, 198 + 4 * i)))]) (m' := (fl_row f (198 + 4 * i) (upd (f (198 + 4 * i)) 6 ((f (198 + 4 * i) 6) + ((((x / (1000 : Int32)) * (x / (1000 : Int32))) * (f (198 + 4 * i) 5)) / (500 : Int32)))), l)) rfl rfl (fl_oks_ok ⟨True.intro, True.intro, t2_kc2 hi, True.intro⟩) rfl ?_
  refine fl_Tq.gfV (k := 6) (v := (f (198 + 4 * i) 6) + ((((x / (1000 : Int32)) * (x / (1000 : Int32))) * (f (198 + 4 * i) 5)) / (500 : Int32))) rfl (fl_oks_ok ⟨t2_kc2 hi, True.intro, True.intro, t2_kc2 hi, True.intro⟩) rfl (by simp only [fl_row_self, upd_self]) ?_
  refine fl_Tq.stp (pc' := 70) (lv' := [some (.inr (.inr (.inl (66, 198 + 4 * i)))), some (.inl x), some (.inr (.inr (.inl (51, 183)))), some (.inr (.inr (.inl (52, 184)))), some (.inl (t2_heldTo_v (((f (198 + 4 * i) 2) + x) - (f 184 27)) (0 : Int32) ((f (198 + 4 * i) 0) * (3600 : Int32)))), some (.inl (x / (1000 : Int32)))]) (st' := [.inl ((f 184 6) - ((f (198 + 4 * i) 6) + ((((x / (1000 : Int32)) * (x / (1000 : Int32))) * (f (198 + 4 * i) 5)) / (500 : Int32)))), .inl ((f (198 + 4 * i) 6) + ((((x / (1000 : Int32)) * (x / (1000 : Int32))) * (f (198 + 4 * i) 5)) / (500 : Int32))), .inr (.inr (.inl (66, 198 + 4 * i)))]) (m' := (fl_row f (198 + 4 * i) (upd (f (198 + 4 * i)) 6 ((f (198 + 4 * i) 6) + ((((x / (1000 : Int32)) * (x / (1000 : Int32))) * (f (198 + 4 * i) 5)) / (500 : Int32)))), l)) rfl rfl (fl_oks_ok ⟨True.intro, True.intro, True.intro, t2_kc2 hi, True.intro⟩) rfl ?_
  refine fl_Tq.cB (c := (32 : Int32)) rfl (by decide +kernel) (fl_oks_ok ⟨True.intro, True.intro, t2_kc2 hi, True.intro⟩) ?_
  refine fl_Tq.dv rfl (fl_oks_ok ⟨True.intro, True.intro, True.intro, t2_kc2 hi, True.intro⟩) (by decide +kernel) ?_
  refine fl_Tq.stp (pc' := 74) (lv' := [some (.inr (.inr (.inl (66, 198 + 4 * i)))), some (.inl x), some (.inr (.inr (.inl (51, 183)))), some (.inr (.inr (.inl (52, 184)))), some (.inl (t2_heldTo_v (((f (198 + 4 * i) 2) + x) - (f 184 27)) (0 : Int32) ((f (198 + 4 * i) 0) * (3600 : Int32)))), some (.inl (x / (1000 : Int32)))]) (st' := [.inl (((f (198 + 4 * i) 6) + ((((x / (1000 : Int32)) * (x / (1000 : Int32))) * (f (198 + 4 * i) 5)) / (500 : Int32))) + (((f 184 6) - ((f (198 + 4 * i) 6) + ((((x / (1000 : Int32)) * (x / (1000 : Int32))) * (f (198 + 4 * i) 5)) / (500 : Int32)))) / (32 : Int32))), .inr (.inr (.inl (66, 198 + 4 * i)))]) (m' := (fl_row f (198 + 4 * i) (upd (f (198 + 4 * i)) 6 ((f (198 + 4 * i) 6) + ((((x / (1000 : Int32)) * (x / (1000 : Int32))) * (f (198 + 4 * i) 5)) / (500 : Int32)))), l)) rfl rfl (fl_oks_ok ⟨True.intro, True.intro, t2_kc2 hi, True.intro⟩) rfl ?_
  refine fl_Tq.pfV (k := 6) (m' := (fl_row f (198 + 4 * i) (upd (f (198 + 4 * i)) 6 (((f (198 + 4 * i) 6) + ((((x / (1000 : Int32)) * (x / (1000 : Int32))) * (f (198 + 4 * i) 5)) / (500 : Int32))) + (((f 184 6) - ((f (198 + 4 * i) 6) + ((((x / (1000 : Int32)) * (x / (1000 : Int32))) * (f (198 + 4 * i) 5)) / (500 : Int32)))) / (32 : Int32)))), l)) rfl (fl_oks_ok ⟨True.intro, t2_kc2 hi, True.intro⟩) rfl (t2_upo) ?_
  refine fl_Tq.stp (pc' := 78) (lv' := [some (.inr (.inr (.inl (66, 198 + 4 * i)))), some (.inl x), some (.inr (.inr (.inl (51, 183)))), some (.inr (.inr (.inl (52, 184)))), some (.inl (t2_heldTo_v (((f (198 + 4 * i) 2) + x) - (f 184 27)) (0 : Int32) ((f (198 + 4 * i) 0) * (3600 : Int32)))), some (.inl (x / (1000 : Int32)))]) (st' := [.inr (.inr (.inl (66, 198 + 4 * i)))]) (m' := (fl_row f (198 + 4 * i) (upd (f (198 + 4 * i)) 6 (((f (198 + 4 * i) 6) + ((((x / (1000 : Int32)) * (x / (1000 : Int32))) * (f (198 + 4 * i) 5)) / (500 : Int32))) + (((f 184 6) - ((f (198 + 4 * i) 6) + ((((x / (1000 : Int32)) * (x / (1000 : Int32))) * (f (198 + 4 * i) 5)) / (500 : Int32)))) / (32 : Int32)))), l)) rfl rfl (fl_bo rfl) rfl ?_
  refine fl_Tq.stp (pc' := 79) (lv' := [some (.inr (.inr (.inl (66, 198 + 4 * i)))), some (.inl x), some (.inr (.inr (.inl (51, 183)))), some (.inr (.inr (.inl (52, 184)))), some (.inl (t2_heldTo_v (((f (198 + 4 * i) 2) + x) - (f 184 27)) (0 : Int32) ((f (198 + 4 * i) 0) * (3600 : Int32)))), some (.inl (x / (1000 : Int32)))]) (st' := [.inr (.inr (.inl (66, 198 + 4 * i))), .inr (.inr (.inl (66, 198 + 4 * i)))]) (m' := (fl_row f (198 + 4 * i) (upd (f (198 + 4 * i)) 6 (((f (198 + 4 * i) 6) + ((((x / (1000 : Int32)) * (x / (1000 : Int32))) * (f (198 + 4 * i) 5)) / (500 : Int32))) + (((f 184 6) - ((f (198 + 4 * i) 6) + ((((x / (1000 : Int32)) * (x / (1000 : Int32))) * (f (198 + 4 * i) 5)) / (500 : Int32)))) / (32 : Int32)))), l)) rfl rfl (fl_oks_ok ⟨t2_kc2 hi, True.intro⟩) rfl ?_
  refine fl_Tq.gfV (k := 7) (v := f (198 + 4 * i) 7) rfl (fl_oks_ok ⟨t2_kc2 hi, t2_kc2 hi, True.intro⟩) rfl (by simp only [fl_row_self, upd_ne (by decide : 7 ≠ 6)]) ?_
  refine fl_Tq.stp (pc' := 83) (lv' := [some (.inr (.inr (.inl (66, 198 + 4 * i)))), some (.inl x), some (.inr (.inr (.inl (51, 183)))), some (.inr (.inr (.inl (52, 184)))), some (.inl (t2_heldTo_v (((f (198 + 4 * i) 2) + x) - (f 184 27)) (0 : Int32) ((f (198 + 4 * i) 0) * (3600 : Int32)))), some (.inl (x / (1000 : Int32)))]) (st' := [.inl x, .inl (f (198 + 4 * i) 7), .inr (.inr (.inl (66, 198 + 4 * i)))]) (m' := (fl_row f (198 + 4 * i) (upd (f (198 + 4 * i)) 6 (((f (198 + 4 * i) 6) + ((((x / (1000 : Int32)) * (x / (1000 : Int32))) * (f (198 + 4 * i) 5)) / (500 : Int32))) + (((f 184 6) - ((f (198 + 4 * i) 6) + ((((x / (1000 : Int32)) * (x / (1000 : Int32))) * (f (198 + 4 * i) 5)) / (500 : Int32)))) / (32 : Int32)))), l)) rfl rfl (fl_oks_ok ⟨True.intro, t2_kc2 hi, True.intro⟩) rfl ?_
  refine fl_Tq.stp (pc' := 84) (lv' := [some (.inr (.inr (.inl (66, 198 + 4 * i)))), some (.inl x), some (.inr (.inr (.inl (51, 183)))), some (.inr (.inr (.inl (52, 184)))), some (.inl (t2_heldTo_v (((f (198 + 4 * i) 2) + x) - (f 184 27)) (0 : Int32) ((f (198 + 4 * i) 0) * (3600 : Int32)))), some (.inl (x / (1000 : Int32)))]) (st' := [.inr (.inr (.inl (52, 184))), .inl x, .inl (f (198 + 4 * i) 7), .inr (.inr (.inl (66, 198 + 4 * i)))]) (m' := (fl_row f (198 + 4 * i) (upd (f (198 + 4 * i)) 6 (((f (198 + 4 * i) 6) + ((((x / (1000 : Int32)) * (x / (1000 : Int32))) * (f (198 + 4 * i) 5)) / (500 : Int32))) + (((f 184 6) - ((f (198 + 4 * i) 6) + ((((x / (1000 : Int32)) * (x / (1000 : Int32))) * (f (198 + 4 * i) 5)) / (500 : Int32)))) / (32 : Int32)))), l)) rfl rfl (fl_oks_ok ⟨True.intro, True.intro, t2_kc2 hi, True.intro⟩) rfl ?_
  refine fl_Tq.cB (c := (25 : Int32)) rfl (by decide +kernel) (fl_oks_ok ⟨fl_okp (by decide +kernel) (by decide), True.intro, True.intro, t2_kc2 hi, True.intro⟩) ?_
  refine fl_Tq.ldV (p := 184) (τ := 52) (n := 30) (z := (0, 0, 0)) (k := 25) (v := f 184 25) rfl (fl_oks_ok ⟨True.intro, fl_okp (by decide +kernel) (by decide), True.intro, True.intro, t2_kc2 hi, True.intro⟩) rfl (by decide +kernel) (by decide) (by simp only [fl_row_ne (show 184 ≠ 198 + 4 * i by omega)]) ?_
  refine fl_Tq.stp (pc' := 88) (lv' := [some (.inr (.inr (.inl (66, 198 + 4 * i)))), some (.inl x), some (.inr (.inr (.inl (51, 183)))), some (.inr (.inr (.inl (52, 184)))), some (.inl (t2_heldTo_v (((f (198 + 4 * i) 2) + x) - (f 184 27)) (0 : Int32) ((f (198 + 4 * i) 0) * (3600 : Int32)))), some (.inl (x / (1000 : Int32)))]) (st' := [.inl (x * (f 184 25)), .inl (f (198 + 4 * i) 7), .inr (.inr (.inl (66, 198 + 4 * i)))]) (m' := (fl_row f (198 + 4 * i) (upd (f (198 + 4 * i)) 6 (((f (198 + 4 * i) 6) + ((((x / (1000 : Int32)) * (x / (1000 : Int32))) * (f (198 + 4 * i) 5)) / (500 : Int32))) + (((f 184 6) - ((f (198 + 4 * i) 6) + ((((x / (1000 : Int32)) * (x / (1000 : Int32))) * (f (198 + 4 * i) 5)) / (500 : Int32)))) / (32 : Int32)))), l)) rfl rfl (fl_oks_ok ⟨True.intro, True.intro, True.intro, t2_kc2 hi, True.intro⟩) rfl ?_
  refine fl_Tq.cS (c := (1000 : Int32)) rfl (by decide +kernel) (fl_oks_ok ⟨True.intro, True.intro, t2_kc2 hi, True.intro⟩) ?_
  refine fl_Tq.dv rfl (fl_oks_ok ⟨True.intro, True.intro, True.intro, t2_kc2 hi, True.intro⟩) (by decide +kernel) ?_
  refine fl_Tq.stp (pc' := 93) (lv' := [some (.inr (.inr (.inl (66, 198 + 4 * i)))), some (.inl x), some (.inr (.inr (.inl (51, 183)))), some (.inr (.inr (.inl (52, 184)))), some (.inl (t2_heldTo_v (((f (198 + 4 * i) 2) + x) - (f 184 27)) (0 : Int32) ((f (198 + 4 * i) 0) * (3600 : Int32)))), some (.inl (x / (1000 : Int32)))]) (st' := [.inr (.inr (.inl (66, 198 + 4 * i))), .inl ((x * (f 184 25)) / (1000 : Int32)), .inl (f (198 + 4 * i) 7), .inr (.inr (.inl (66, 198 + 4 * i)))]) (m' := (fl_row f (198 + 4 * i) (upd (f (198 + 4 * i)) 6 (((f (198 + 4 * i) 6) + ((((x / (1000 : Int32)) * (x / (1000 : Int32))) * (f (198 + 4 * i) 5)) / (500 : Int32))) + (((f 184 6) - ((f (198 + 4 * i) 6) + ((((x / (1000 : Int32)) * (x / (1000 : Int32))) * (f (198 + 4 * i) 5)) / (500 : Int32)))) / (32 : Int32)))), l)) rfl rfl (fl_oks_ok ⟨True.intro, True.intro, t2_kc2 hi, True.intro⟩) rfl ?_
  refine fl_Tq.gfV (k := 7) (v := f (198 + 4 * i) 7) rfl (fl_oks_ok ⟨t2_kc2 hi, True.intro, True.intro, t2_kc2 hi, True.intro⟩) rfl (by simp only [fl_row_self, upd_ne (by decide : 7 ≠ 6)]) ?_
  refine fl_Tq.stp (pc' := 97) (lv' := [some (.inr (.inr (.inl (66, 198 + 4 * i)))), some (.inl x), some (.inr (.inr (.inl (51, 183)))), some (.inr (.inr (.inl (52, 184)))), some (.inl (t2_heldTo_v (((f (198 + 4 * i) 2) + x) - (f 184 27)) (0 : Int32) ((f (198 + 4 * i) 0) * (3600 : Int32)))), some (.inl (x / (1000 : Int32)))]) (st' := [.inl (((x * (f 184 25)) / (1000 : Int32)) - (f (198 + 4 * i) 7)), .inl (f (198 + 4 * i) 7), .inr (.inr (.inl (66, 198 + 4 * i)))]) (m' := (fl_row f (198 + 4 * i) (upd (f (198 + 4 * i)) 6 (((f (198 + 4 * i) 6) + ((((x / (1000 : Int32)) * (x / (1000 : Int32))) * (f (198 + 4 * i) 5)) / (500 : Int32))) + (((f 184 6) - ((f (198 + 4 * i) 6) + ((((x / (1000 : Int32)) * (x / (1000 : Int32))) * (f (198 + 4 * i) 5)) / (500 : Int32)))) / (32 : Int32)))), l)) rfl rfl (fl_oks_ok ⟨True.intro, True.intro, True.intro, t2_kc2 hi, True.intro⟩) rfl ?_
  refine fl_Tq.cB (c := (8 : Int32)) rfl (by decide +kernel) (fl_oks_ok ⟨True.intro, True.intro, t2_kc2 hi, True.intro⟩) ?_
  refine fl_Tq.dv rfl (fl_oks_ok ⟨True.intro, True.intro, True.intro, t2_kc2 hi, True.intro⟩) (by decide +kernel) ?_
  refine fl_Tq.stp (pc' := 101) (lv' := [some (.inr (.inr (.inl (66, 198 + 4 * i)))), some (.inl x), some (.inr (.inr (.inl (51, 183)))), some (.inr (.inr (.inl (52, 184)))), some (.inl (t2_heldTo_v (((f (198 + 4 * i) 2) + x) - (f 184 27)) (0 : Int32) ((f (198 + 4 * i) 0) * (3600 : Int32)))), some (.inl (x / (1000 : Int32)))]) (st' := [.inl ((f (198 + 4 * i) 7) + ((((x * (f 184 25)) / (1000 : Int32)) - (f (198 + 4 * i) 7)) / (8 : Int32))), .inr (.inr (.inl (66, 198 + 4 * i)))]) (m' := (fl_row f (198 + 4 * i) (upd (f (198 + 4 * i)) 6 (((f (198 + 4 * i) 6) + ((((x / (1000 : Int32)) * (x / (1000 : Int32))) * (f (198 + 4 * i) 5)) / (500 : Int32))) + (((f 184 6) - ((f (198 + 4 * i) 6) + ((((x / (1000 : Int32)) * (x / (1000 : Int32))) * (f (198 + 4 * i) 5)) / (500 : Int32)))) / (32 : Int32)))), l)) rfl rfl (fl_oks_ok ⟨True.intro, True.intro, t2_kc2 hi, True.intro⟩) rfl ?_
  refine fl_Tq.pfV (k := 7) (m' := (fl_row f (198 + 4 * i) (upd (upd (f (198 + 4 * i)) 6 (((f (198 + 4 * i) 6) + ((((x / (1000 : Int32)) * (x / (1000 : Int32))) * (f (198 + 4 * i) 5)) / (500 : Int32))) + (((f 184 6) - ((f (198 + 4 * i) 6) + ((((x / (1000 : Int32)) * (x / (1000 : Int32))) * (f (198 + 4 * i) 5)) / (500 : Int32)))) / (32 : Int32)))) 7 ((f (198 + 4 * i) 7) + ((((x * (f 184 25)) / (1000 : Int32)) - (f (198 + 4 * i) 7)) / (8 : Int32)))), l)) rfl (fl_oks_ok ⟨True.intro, t2_kc2 hi, True.intro⟩) rfl (t2_upr) ?_
  refine fl_Tq.stp (pc' := 105) (lv' := [some (.inr (.inr (.inl (66, 198 + 4 * i)))), some (.inl x), some (.inr (.inr (.inl (51, 183)))), some (.inr (.inr (.inl (52, 184)))), some (.inl (t2_heldTo_v (((f (198 + 4 * i) 2) + x) - (f 184 27)) (0 : Int32) ((f (198 + 4 * i) 0) * (3600 : Int32)))), some (.inl (x / (1000 : Int32)))]) (st' := [.inr (.inr (.inl (66, 198 + 4 * i)))]) (m' := (fl_row f (198 + 4 * i) (upd (upd (f (198 + 4 * i)) 6 (((f (198 + 4 * i) 6) + ((((x / (1000 : Int32)) * (x / (1000 : Int32))) * (f (198 + 4 * i) 5)) / (500 : Int32))) + (((f 184 6) - ((f (198 + 4 * i) 6) + ((((x / (1000 : Int32)) * (x / (1000 : Int32))) * (f (198 + 4 * i) 5)) / (500 : Int32)))) / (32 : Int32)))) 7 ((f (198 + 4 * i) 7) + ((((x * (f 184 25)) / (1000 : Int32)) - (f (198 + 4 * i) 7)) / (8 : Int32)))), l)) rfl rfl (fl_bo rfl) rfl ?_
  refine fl_Tq.stp (pc' := 106) (lv' := [some (.inr (.inr (.inl (66, 198 + 4 * i)))), some (.inl x), some (.inr (.inr (.inl (51, 183)))), some (.inr (.inr (.inl (52, 184)))), some (.inl (t2_heldTo_v (((f (198 + 4 * i) 2) + x) - (f 184 27)) (0 : Int32) ((f (198 + 4 * i) 0) * (3600 : Int32)))), some (.inl (x / (1000 : Int32)))]) (st' := [.inr (.inr (.inl (66, 198 + 4 * i))), .inr (.inr (.inl (66, 198 + 4 * i)))]) (m' := (fl_row f (198 + 4 * i) (upd (upd (f (198 + 4 * i)) 6 (((f (198 + 4 * i) 6) + ((((x / (1000 : Int32)) * (x / (1000 : Int32))) * (f (198 + 4 * i) 5)) / (500 : Int32))) + (((f 184 6) - ((f (198 + 4 * i) 6) + ((((x / (1000 : Int32)) * (x / (1000 : Int32))) * (f (198 + 4 * i) 5)) / (500 : Int32)))) / (32 : Int32)))) 7 ((f (198 + 4 * i) 7) + ((((x * (f 184 25)) / (1000 : Int32)) - (f (198 + 4 * i) 7)) / (8 : Int32)))), l)) rfl rfl (fl_oks_ok ⟨t2_kc2 hi, True.intro⟩) rfl ?_
  refine fl_Tq.gfV (k := 9) (v := f (198 + 4 * i) 9) rfl (fl_oks_ok ⟨t2_kc2 hi, t2_kc2 hi, True.intro⟩) rfl (by simp only [fl_row_self, upd_ne (by decide : 9 ≠ 7), upd_ne (by decide : 9 ≠ 6)]) ?_
  refine fl_Tq.stp (pc' := 110) (lv' := [some (.inr (.inr (.inl (66, 198 + 4 * i)))), some (.inl x), some (.inr (.inr (.inl (51, 183)))), some (.inr (.inr (.inl (52, 184)))), some (.inl (t2_heldTo_v (((f (198 + 4 * i) 2) + x) - (f 184 27)) (0 : Int32) ((f (198 + 4 * i) 0) * (3600 : Int32)))), some (.inl (x / (1000 : Int32)))]) (st' := [.inl x, .inl (f (198 + 4 * i) 9), .inr (.inr (.inl (66, 198 + 4 * i)))]) (m' := (fl_row f (198 + 4 * i) (upd (upd (f (198 + 4 * i)) 6 (((f (198 + 4 * i) 6) + ((((x / (1000 : Int32)) * (x / (1000 : Int32))) * (f (198 + 4 * i) 5)) / (500 : Int32))) + (((f 184 6) - ((f (198 + 4 * i) 6) + ((((x / (1000 : Int32)) * (x / (1000 : Int32))) * (f (198 + 4 * i) 5)) / (500 : Int32)))) / (32 : Int32)))) 7 ((f (198 + 4 * i) 7) + ((((x * (f 184 25)) / (1000 : Int32)) - (f (198 + 4 * i) 7)) / (8 : Int32)))), l)) rfl rfl (fl_oks_ok ⟨True.intro, t2_kc2 hi, True.intro⟩) rfl ?_
  refine fl_Tq.cal rfl rfl (fl_oks_ok ⟨True.intro, True.intro, t2_kc2 hi, True.intro⟩) rfl ?_
  refine t2_abs_q  ?_
  show fl_Tq _ 10 113 [some (.inr (.inr (.inl (66, 198 + 4 * i)))), some (.inl x), some (.inr (.inr (.inl (51, 183)))), some (.inr (.inr (.inl (52, 184)))), some (.inl (t2_heldTo_v (((f (198 + 4 * i) 2) + x) - (f 184 27)) (0 : Int32) ((f (198 + 4 * i) 0) * (3600 : Int32)))), some (.inl (x / (1000 : Int32)))] [.inl (t2_abs_v x), .inl (f (198 + 4 * i) 9), .inr (.inr (.inl (66, 198 + 4 * i)))] (fl_row f (198 + 4 * i) (upd (upd (f (198 + 4 * i)) 6 (((f (198 + 4 * i) 6) + ((((x / (1000 : Int32)) * (x / (1000 : Int32))) * (f (198 + 4 * i) 5)) / (500 : Int32))) + (((f 184 6) - ((f (198 + 4 * i) 6) + ((((x / (1000 : Int32)) * (x / (1000 : Int32))) * (f (198 + 4 * i) 5)) / (500 : Int32)))) / (32 : Int32)))) 7 ((f (198 + 4 * i) 7) + ((((x * (f 184 25)) / (1000 : Int32)) - (f (198 + 4 * i) 7)) / (8 : Int32)))), l) _
  refine fl_Tq.stp (pc' := 114) (lv' := [some (.inr (.inr (.inl (66, 198 + 4 * i)))), some (.inl x), some (.inr (.inr (.inl (51, 183)))), some (.inr (.inr (.inl (52, 184)))), some (.inl (t2_heldTo_v (((f (198 + 4 * i) 2) + x) - (f 184 27)) (0 : Int32) ((f (198 + 4 * i) 0) * (3600 : Int32)))), some (.inl (x / (1000 : Int32)))]) (st' := [.inl ((f (198 + 4 * i) 9) + (t2_abs_v x)), .inr (.inr (.inl (66, 198 + 4 * i)))]) (m' := (fl_row f (198 + 4 * i) (upd (upd (f (198 + 4 * i)) 6 (((f (198 + 4 * i) 6) + ((((x / (1000 : Int32)) * (x / (1000 : Int32))) * (f (198 + 4 * i) 5)) / (500 : Int32))) + (((f 184 6) - ((f (198 + 4 * i) 6) + ((((x / (1000 : Int32)) * (x / (1000 : Int32))) * (f (198 + 4 * i) 5)) / (500 : Int32)))) / (32 : Int32)))) 7 ((f (198 + 4 * i) 7) + ((((x * (f 184 25)) / (1000 : Int32)) - (f (198 + 4 * i) 7)) / (8 : Int32)))), l)) rfl rfl (fl_oks_ok ⟨True.intro, True.intro, t2_kc2 hi, True.intro⟩) rfl ?_
  refine fl_Tq.pfV (k := 9) (m' := (fl_row f (198 + 4 * i) (upd (upd (upd (f (198 + 4 * i)) 6 (((f (198 + 4 * i) 6) + ((((x / (1000 : Int32)) * (x / (1000 : Int32))) * (f (198 + 4 * i) 5)) / (500 : Int32))) + (((f 184 6) - ((f (198 + 4 * i) 6) + ((((x / (1000 : Int32)) * (x / (1000 : Int32))) * (f (198 + 4 * i) 5)) / (500 : Int32)))) / (32 : Int32)))) 7 ((f (198 + 4 * i) 7) + ((((x * (f 184 25)) / (1000 : Int32)) - (f (198 + 4 * i) 7)) / (8 : Int32)))) 9 ((f (198 + 4 * i) 9) + (t2_abs_v x))), l)) rfl (fl_oks_ok ⟨True.intro, t2_kc2 hi, True.intro⟩) rfl (t2_upr) ?_
  refine fl_Tq.stp (pc' := 118) (lv' := [some (.inr (.inr (.inl (66, 198 + 4 * i)))), some (.inl x), some (.inr (.inr (.inl (51, 183)))), some (.inr (.inr (.inl (52, 184)))), some (.inl (t2_heldTo_v (((f (198 + 4 * i) 2) + x) - (f 184 27)) (0 : Int32) ((f (198 + 4 * i) 0) * (3600 : Int32)))), some (.inl (x / (1000 : Int32)))]) (st' := [.inr (.inr (.inl (66, 198 + 4 * i)))]) (m' := (fl_row f (198 + 4 * i) (upd (upd (upd (f (198 + 4 * i)) 6 (((f (198 + 4 * i) 6) + ((((x / (1000 : Int32)) * (x / (1000 : Int32))) * (f (198 + 4 * i) 5)) / (500 : Int32))) + (((f 184 6) - ((f (198 + 4 * i) 6) + ((((x / (1000 : Int32)) * (x / (1000 : Int32))) * (f (198 + 4 * i) 5)) / (500 : Int32)))) / (32 : Int32)))) 7 ((f (198 + 4 * i) 7) + ((((x * (f 184 25)) / (1000 : Int32)) - (f (198 + 4 * i) 7)) / (8 : Int32)))) 9 ((f (198 + 4 * i) 9) + (t2_abs_v x))), l)) rfl rfl (fl_bo rfl) rfl ?_
  refine fl_Tq.stp (pc' := 119) (lv' := [some (.inr (.inr (.inl (66, 198 + 4 * i)))), some (.inl x), some (.inr (.inr (.inl (51, 183)))), some (.inr (.inr (.inl (52, 184)))), some (.inl (t2_heldTo_v (((f (198 + 4 * i) 2) + x) - (f 184 27)) (0 : Int32) ((f (198 + 4 * i) 0) * (3600 : Int32)))), some (.inl (x / (1000 : Int32)))]) (st' := [.inr (.inr (.inl (52, 184))), .inr (.inr (.inl (66, 198 + 4 * i)))]) (m' := (fl_row f (198 + 4 * i) (upd (upd (upd (f (198 + 4 * i)) 6 (((f (198 + 4 * i) 6) + ((((x / (1000 : Int32)) * (x / (1000 : Int32))) * (f (198 + 4 * i) 5)) / (500 : Int32))) + (((f 184 6) - ((f (198 + 4 * i) 6) + ((((x / (1000 : Int32)) * (x / (1000 : Int32))) * (f (198 + 4 * i) 5)) / (500 : Int32)))) / (32 : Int32)))) 7 ((f (198 + 4 * i) 7) + ((((x * (f 184 25)) / (1000 : Int32)) - (f (198 + 4 * i) 7)) / (8 : Int32)))) 9 ((f (198 + 4 * i) 9) + (t2_abs_v x))), l)) rfl rfl (fl_oks_ok ⟨t2_kc2 hi, True.intro⟩) rfl ?_
  refine fl_Tq.cB (c := (24 : Int32)) rfl (by decide +kernel) (fl_oks_ok ⟨fl_okp (by decide +kernel) (by decide), t2_kc2 hi, True.intro⟩) ?_
  refine fl_Tq.ldV (p := 184) (τ := 52) (n := 30) (z := (0, 0, 0)) (k := 24) (v := f 184 24) rfl (fl_oks_ok ⟨True.intro, fl_okp (by decide +kernel) (by decide), t2_kc2 hi, True.intro⟩) rfl (by decide +kernel) (by decide) (by simp only [fl_row_ne (show 184 ≠ 198 + 4 * i by omega)]) ?_
  refine fl_Tq.cal rfl rfl (fl_oks_ok ⟨True.intro, t2_kc2 hi, True.intro⟩) rfl ?_
  refine c2_wear_q hi ?_
  show fl_Tq _ 10 125 [some (.inr (.inr (.inl (66, 198 + 4 * i)))), some (.inl x), some (.inr (.inr (.inl (51, 183)))), some (.inr (.inr (.inl (52, 184)))), some (.inl (t2_heldTo_v (((f (198 + 4 * i) 2) + x) - (f 184 27)) (0 : Int32) ((f (198 + 4 * i) 0) * (3600 : Int32)))), some (.inl (x / (1000 : Int32)))] [] (c2_wear_m (fl_row f (198 + 4 * i) (upd (upd (upd (f (198 + 4 * i)) 6 (((f (198 + 4 * i) 6) + ((((x / (1000 : Int32)) * (x / (1000 : Int32))) * (f (198 + 4 * i) 5)) / (500 : Int32))) + (((f 184 6) - ((f (198 + 4 * i) 6) + ((((x / (1000 : Int32)) * (x / (1000 : Int32))) * (f (198 + 4 * i) 5)) / (500 : Int32)))) / (32 : Int32)))) 7 ((f (198 + 4 * i) 7) + ((((x * (f 184 25)) / (1000 : Int32)) - (f (198 + 4 * i) 7)) / (8 : Int32)))) 9 ((f (198 + 4 * i) 9) + (t2_abs_v x)))) i (f 184 24), l) _
  refine fl_Tq.stp (pc' := 126) (lv' := [some (.inr (.inr (.inl (66, 198 + 4 * i)))), some (.inl x), some (.inr (.inr (.inl (51, 183)))), some (.inr (.inr (.inl (52, 184)))), some (.inl (t2_heldTo_v (((f (198 + 4 * i) 2) + x) - (f 184 27)) (0 : Int32) ((f (198 + 4 * i) 0) * (3600 : Int32)))), some (.inl (x / (1000 : Int32)))]) (st' := [.inr (.inr (.inl (66, 198 + 4 * i)))]) (m' := (c2_wear_m (fl_row f (198 + 4 * i) (upd (upd (upd (f (198 + 4 * i)) 6 (((f (198 + 4 * i) 6) + ((((x / (1000 : Int32)) * (x / (1000 : Int32))) * (f (198 + 4 * i) 5)) / (500 : Int32))) + (((f 184 6) - ((f (198 + 4 * i) 6) + ((((x / (1000 : Int32)) * (x / (1000 : Int32))) * (f (198 + 4 * i) 5)) / (500 : Int32)))) / (32 : Int32)))) 7 ((f (198 + 4 * i) 7) + ((((x * (f 184 25)) / (1000 : Int32)) - (f (198 + 4 * i) 7)) / (8 : Int32)))) 9 ((f (198 + 4 * i) 9) + (t2_abs_v x)))) i (f 184 24), l)) rfl rfl (fl_bo rfl) rfl ?_
  refine fl_Tq.stp (pc' := 128) (lv' := [some (.inr (.inr (.inl (66, 198 + 4 * i)))), some (.inl x), some (.inr (.inr (.inl (51, 183)))), some (.inr (.inr (.inl (52, 184)))), some (.inl (t2_heldTo_v (((f (198 + 4 * i) 2) + x) - (f 184 27)) (0 : Int32) ((f (198 + 4 * i) 0) * (3600 : Int32)))), some (.inl (x / (1000 : Int32)))]) (st' := [.inl (t2_heldTo_v (((f (198 + 4 * i) 2) + x) - (f 184 27)) (0 : Int32) ((f (198 + 4 * i) 0) * (3600 : Int32))), .inr (.inr (.inl (66, 198 + 4 * i)))]) (m' := (c2_wear_m (fl_row f (198 + 4 * i) (upd (upd (upd (f (198 + 4 * i)) 6 (((f (198 + 4 * i) 6) + ((((x / (1000 : Int32)) * (x / (1000 : Int32))) * (f (198 + 4 * i) 5)) / (500 : Int32))) + (((f 184 6) - ((f (198 + 4 * i) 6) + ((((x / (1000 : Int32)) * (x / (1000 : Int32))) * (f (198 + 4 * i) 5)) / (500 : Int32)))) / (32 : Int32)))) 7 ((f (198 + 4 * i) 7) + ((((x * (f 184 25)) / (1000 : Int32)) - (f (198 + 4 * i) 7)) / (8 : Int32)))) 9 ((f (198 + 4 * i) 9) + (t2_abs_v x)))) i (f 184 24), l)) rfl rfl (fl_oks_ok ⟨t2_kc2 hi, True.intro⟩) rfl ?_
  refine fl_Tq.cal rfl rfl (fl_oks_ok ⟨True.intro, t2_kc2 hi, True.intro⟩) rfl ?_
  refine c2_putCharge_q hi (c2_wear_cap (by simp only [fl_row_self, upd_ne (by decide : 0 ≠ 9), upd_ne (by decide : 0 ≠ 7), upd_ne (by decide : 0 ≠ 6)]; exact hk)) ?_
  show fl_Tq _ 10 131 [some (.inr (.inr (.inl (66, 198 + 4 * i)))), some (.inl x), some (.inr (.inr (.inl (51, 183)))), some (.inr (.inr (.inl (52, 184)))), some (.inl (t2_heldTo_v (((f (198 + 4 * i) 2) + x) - (f 184 27)) (0 : Int32) ((f (198 + 4 * i) 0) * (3600 : Int32)))), some (.inl (x / (1000 : Int32)))] [] (c2_putCharge_m (c2_wear_m (fl_row f (198 + 4 * i) (upd (upd (upd (f (198 + 4 * i)) 6 (((f (198 + 4 * i) 6) + ((((x / (1000 : Int32)) * (x / (1000 : Int32))) * (f (198 + 4 * i) 5)) / (500 : Int32))) + (((f 184 6) - ((f (198 + 4 * i) 6) + ((((x / (1000 : Int32)) * (x / (1000 : Int32))) * (f (198 + 4 * i) 5)) / (500 : Int32)))) / (32 : Int32)))) 7 ((f (198 + 4 * i) 7) + ((((x * (f 184 25)) / (1000 : Int32)) - (f (198 + 4 * i) 7)) / (8 : Int32)))) 9 ((f (198 + 4 * i) 9) + (t2_abs_v x)))) i (f 184 24)) i (t2_heldTo_v (((f (198 + 4 * i) 2) + x) - (f 184 27)) (0 : Int32) ((f (198 + 4 * i) 0) * (3600 : Int32))), l) _
  refine fl_Tq.stp (pc' := 132) (lv' := [some (.inr (.inr (.inl (66, 198 + 4 * i)))), some (.inl x), some (.inr (.inr (.inl (51, 183)))), some (.inr (.inr (.inl (52, 184)))), some (.inl (t2_heldTo_v (((f (198 + 4 * i) 2) + x) - (f 184 27)) (0 : Int32) ((f (198 + 4 * i) 0) * (3600 : Int32)))), some (.inl (x / (1000 : Int32)))]) (st' := [.inr (.inr (.inl (66, 198 + 4 * i)))]) (m' := (c2_putCharge_m (c2_wear_m (fl_row f (198 + 4 * i) (upd (upd (upd (f (198 + 4 * i)) 6 (((f (198 + 4 * i) 6) + ((((x / (1000 : Int32)) * (x / (1000 : Int32))) * (f (198 + 4 * i) 5)) / (500 : Int32))) + (((f 184 6) - ((f (198 + 4 * i) 6) + ((((x / (1000 : Int32)) * (x / (1000 : Int32))) * (f (198 + 4 * i) 5)) / (500 : Int32)))) / (32 : Int32)))) 7 ((f (198 + 4 * i) 7) + ((((x * (f 184 25)) / (1000 : Int32)) - (f (198 + 4 * i) 7)) / (8 : Int32)))) 9 ((f (198 + 4 * i) 9) + (t2_abs_v x)))) i (f 184 24)) i (t2_heldTo_v (((f (198 + 4 * i) 2) + x) - (f 184 27)) (0 : Int32) ((f (198 + 4 * i) 0) * (3600 : Int32))), l)) rfl rfl (fl_bo rfl) rfl ?_
  refine fl_Tq.stp (pc' := 133) (lv' := [some (.inr (.inr (.inl (66, 198 + 4 * i)))), some (.inl x), some (.inr (.inr (.inl (51, 183)))), some (.inr (.inr (.inl (52, 184)))), some (.inl (t2_heldTo_v (((f (198 + 4 * i) 2) + x) - (f 184 27)) (0 : Int32) ((f (198 + 4 * i) 0) * (3600 : Int32)))), some (.inl (x / (1000 : Int32)))]) (st' := [.inr (.inr (.inl (66, 198 + 4 * i))), .inr (.inr (.inl (66, 198 + 4 * i)))]) (m' := (c2_putCharge_m (c2_wear_m (fl_row f (198 + 4 * i) (upd (upd (upd (f (198 + 4 * i)) 6 (((f (198 + 4 * i) 6) + ((((x / (1000 : Int32)) * (x / (1000 : Int32))) * (f (198 + 4 * i) 5)) / (500 : Int32))) + (((f 184 6) - ((f (198 + 4 * i) 6) + ((((x / (1000 : Int32)) * (x / (1000 : Int32))) * (f (198 + 4 * i) 5)) / (500 : Int32)))) / (32 : Int32)))) 7 ((f (198 + 4 * i) 7) + ((((x * (f 184 25)) / (1000 : Int32)) - (f (198 + 4 * i) 7)) / (8 : Int32)))) 9 ((f (198 + 4 * i) 9) + (t2_abs_v x)))) i (f 184 24)) i (t2_heldTo_v (((f (198 + 4 * i) 2) + x) - (f 184 27)) (0 : Int32) ((f (198 + 4 * i) 0) * (3600 : Int32))), l)) rfl rfl (fl_oks_ok ⟨t2_kc2 hi, True.intro⟩) rfl ?_
  refine fl_Tq.gfV (k := 8) (v := (c2_putCharge_m (c2_wear_m (fl_row f (198 + 4 * i) (upd (upd (upd (f (198 + 4 * i)) 6 (((f (198 + 4 * i) 6) + ((((x / (1000 : Int32)) * (x / (1000 : Int32))) * (f (198 + 4 * i) 5)) / (500 : Int32))) + (((f 184 6) - ((f (198 + 4 * i) 6) + ((((x / (1000 : Int32)) * (x / (1000 : Int32))) * (f (198 + 4 * i) 5)) / (500 : Int32)))) / (32 : Int32)))) 7 ((f (198 + 4 * i) 7) + ((((x * (f 184 25)) / (1000 : Int32)) - (f (198 + 4 * i) 7)) / (8 : Int32)))) 9 ((f (198 + 4 * i) 9) + (t2_abs_v x)))) i (f 184 24)) i (t2_heldTo_v (((f (198 + 4 * i) 2) + x) - (f 184 27)) (0 : Int32) ((f (198 + 4 * i) 0) * (3600 : Int32)))) (198 + 4 * i) 8) rfl (fl_oks_ok ⟨t2_kc2 hi, t2_kc2 hi, True.intro⟩) rfl rfl ?_
  refine fl_Tq.stp (pc' := 137) (lv' := [some (.inr (.inr (.inl (66, 198 + 4 * i)))), some (.inl x), some (.inr (.inr (.inl (51, 183)))), some (.inr (.inr (.inl (52, 184)))), some (.inl (t2_heldTo_v (((f (198 + 4 * i) 2) + x) - (f 184 27)) (0 : Int32) ((f (198 + 4 * i) 0) * (3600 : Int32)))), some (.inl (x / (1000 : Int32)))]) (st' := [.inl x, .inl ((c2_putCharge_m (c2_wear_m (fl_row f (198 + 4 * i) (upd (upd (upd (f (198 + 4 * i)) 6 (((f (198 + 4 * i) 6) + ((((x / (1000 : Int32)) * (x / (1000 : Int32))) * (f (198 + 4 * i) 5)) / (500 : Int32))) + (((f 184 6) - ((f (198 + 4 * i) 6) + ((((x / (1000 : Int32)) * (x / (1000 : Int32))) * (f (198 + 4 * i) 5)) / (500 : Int32)))) / (32 : Int32)))) 7 ((f (198 + 4 * i) 7) + ((((x * (f 184 25)) / (1000 : Int32)) - (f (198 + 4 * i) 7)) / (8 : Int32)))) 9 ((f (198 + 4 * i) 9) + (t2_abs_v x)))) i (f 184 24)) i (t2_heldTo_v (((f (198 + 4 * i) 2) + x) - (f 184 27)) (0 : Int32) ((f (198 + 4 * i) 0) * (3600 : Int32)))) (198 + 4 * i) 8), .inr (.inr (.inl (66, 198 + 4 * i)))]) (m' := (c2_putCharge_m (c2_wear_m (fl_row f (198 + 4 * i) (upd (upd (upd (f (198 + 4 * i)) 6 (((f (198 + 4 * i) 6) + ((((x / (1000 : Int32)) * (x / (1000 : Int32))) * (f (198 + 4 * i) 5)) / (500 : Int32))) + (((f 184 6) - ((f (198 + 4 * i) 6) + ((((x / (1000 : Int32)) * (x / (1000 : Int32))) * (f (198 + 4 * i) 5)) / (500 : Int32)))) / (32 : Int32)))) 7 ((f (198 + 4 * i) 7) + ((((x * (f 184 25)) / (1000 : Int32)) - (f (198 + 4 * i) 7)) / (8 : Int32)))) 9 ((f (198 + 4 * i) 9) + (t2_abs_v x)))) i (f 184 24)) i (t2_heldTo_v (((f (198 + 4 * i) 2) + x) - (f 184 27)) (0 : Int32) ((f (198 + 4 * i) 0) * (3600 : Int32))), l)) rfl rfl (fl_oks_ok ⟨True.intro, t2_kc2 hi, True.intro⟩) rfl ?_
  refine fl_Tq.stp (pc' := 138) (lv' := [some (.inr (.inr (.inl (66, 198 + 4 * i)))), some (.inl x), some (.inr (.inr (.inl (51, 183)))), some (.inr (.inr (.inl (52, 184)))), some (.inl (t2_heldTo_v (((f (198 + 4 * i) 2) + x) - (f 184 27)) (0 : Int32) ((f (198 + 4 * i) 0) * (3600 : Int32)))), some (.inl (x / (1000 : Int32)))]) (st' := [.inl (((c2_putCharge_m (c2_wear_m (fl_row f (198 + 4 * i) (upd (upd (upd (f (198 + 4 * i)) 6 (((f (198 + 4 * i) 6) + ((((x / (1000 : Int32)) * (x / (1000 : Int32))) * (f (198 + 4 * i) 5)) / (500 : Int32))) + (((f 184 6) - ((f (198 + 4 * i) 6) + ((((x / (1000 : Int32)) * (x / (1000 : Int32))) * (f (198 + 4 * i) 5)) / (500 : Int32)))) / (32 : Int32)))) 7 ((f (198 + 4 * i) 7) + ((((x * (f 184 25)) / (1000 : Int32)) - (f (198 + 4 * i) 7)) / (8 : Int32)))) 9 ((f (198 + 4 * i) 9) + (t2_abs_v x)))) i (f 184 24)) i (t2_heldTo_v (((f (198 + 4 * i) 2) + x) - (f 184 27)) (0 : Int32) ((f (198 + 4 * i) 0) * (3600 : Int32)))) (198 + 4 * i) 8) + x), .inr (.inr (.inl (66, 198 + 4 * i)))]) (m' := (c2_putCharge_m (c2_wear_m (fl_row f (198 + 4 * i) (upd (upd (upd (f (198 + 4 * i)) 6 (((f (198 + 4 * i) 6) + ((((x / (1000 : Int32)) * (x / (1000 : Int32))) * (f (198 + 4 * i) 5)) / (500 : Int32))) + (((f 184 6) - ((f (198 + 4 * i) 6) + ((((x / (1000 : Int32)) * (x / (1000 : Int32))) * (f (198 + 4 * i) 5)) / (500 : Int32)))) / (32 : Int32)))) 7 ((f (198 + 4 * i) 7) + ((((x * (f 184 25)) / (1000 : Int32)) - (f (198 + 4 * i) 7)) / (8 : Int32)))) 9 ((f (198 + 4 * i) 9) + (t2_abs_v x)))) i (f 184 24)) i (t2_heldTo_v (((f (198 + 4 * i) 2) + x) - (f 184 27)) (0 : Int32) ((f (198 + 4 * i) 0) * (3600 : Int32))), l)) rfl rfl (fl_oks_ok ⟨True.intro, True.intro, t2_kc2 hi, True.intro⟩) rfl ?_
  refine fl_Tq.stp (pc' := 139) (lv' := [some (.inr (.inr (.inl (66, 198 + 4 * i)))), some (.inl x), some (.inr (.inr (.inl (51, 183)))), some (.inr (.inr (.inl (52, 184)))), some (.inl (t2_heldTo_v (((f (198 + 4 * i) 2) + x) - (f 184 27)) (0 : Int32) ((f (198 + 4 * i) 0) * (3600 : Int32)))), some (.inl (x / (1000 : Int32)))]) (st' := [.inr (.inr (.inl (52, 184))), .inl (((c2_putCharge_m (c2_wear_m (fl_row f (198 + 4 * i) (upd (upd (upd (f (198 + 4 * i)) 6 (((f (198 + 4 * i) 6) + ((((x / (1000 : Int32)) * (x / (1000 : Int32))) * (f (198 + 4 * i) 5)) / (500 : Int32))) + (((f 184 6) - ((f (198 + 4 * i) 6) + ((((x / (1000 : Int32)) * (x / (1000 : Int32))) * (f (198 + 4 * i) 5)) / (500 : Int32)))) / (32 : Int32)))) 7 ((f (198 + 4 * i) 7) + ((((x * (f 184 25)) / (1000 : Int32)) - (f (198 + 4 * i) 7)) / (8 : Int32)))) 9 ((f (198 + 4 * i) 9) + (t2_abs_v x)))) i (f 184 24)) i (t2_heldTo_v (((f (198 + 4 * i) 2) + x) - (f 184 27)) (0 : Int32) ((f (198 + 4 * i) 0) * (3600 : Int32)))) (198 + 4 * i) 8) + x), .inr (.inr (.inl (66, 198 + 4 * i)))]) (m' := (c2_putCharge_m (c2_wear_m (fl_row f (198 + 4 * i) (upd (upd (upd (f (198 + 4 * i)) 6 (((f (198 + 4 * i) 6) + ((((x / (1000 : Int32)) * (x / (1000 : Int32))) * (f (198 + 4 * i) 5)) / (500 : Int32))) + (((f 184 6) - ((f (198 + 4 * i) 6) + ((((x / (1000 : Int32)) * (x / (1000 : Int32))) * (f (198 + 4 * i) 5)) / (500 : Int32)))) / (32 : Int32)))) 7 ((f (198 + 4 * i) 7) + ((((x * (f 184 25)) / (1000 : Int32)) - (f (198 + 4 * i) 7)) / (8 : Int32)))) 9 ((f (198 + 4 * i) 9) + (t2_abs_v x)))) i (f 184 24)) i (t2_heldTo_v (((f (198 + 4 * i) 2) + x) - (f 184 27)) (0 : Int32) ((f (198 + 4 * i) 0) * (3600 : Int32))), l)) rfl rfl (fl_oks_ok ⟨True.intro, t2_kc2 hi, True.intro⟩) rfl ?_
  refine fl_Tq.cB (c := (18 : Int32)) rfl (by decide +kernel) (fl_oks_ok ⟨fl_okp (by decide +kernel) (by decide), True.intro, t2_kc2 hi, True.intro⟩) ?_
  refine fl_Tq.ldV (p := 184) (τ := 52) (n := 30) (z := (0, 0, 0)) (k := 18) (v := f 184 18) rfl (fl_oks_ok ⟨True.intro, fl_okp (by decide +kernel) (by decide), True.intro, t2_kc2 hi, True.intro⟩) rfl (by decide +kernel) (by decide) (by simp only [c2_putCharge_fr (show 184 ≠ 198 + 4 * i by omega), c2_wear_fr (show 184 ≠ 198 + 4 * i by omega), fl_row_ne (show 184 ≠ 198 + 4 * i by omega)]) ?_
  refine fl_Tq.stp (pc' := 143) (lv' := [some (.inr (.inr (.inl (66, 198 + 4 * i)))), some (.inl x), some (.inr (.inr (.inl (51, 183)))), some (.inr (.inr (.inl (52, 184)))), some (.inl (t2_heldTo_v (((f (198 + 4 * i) 2) + x) - (f 184 27)) (0 : Int32) ((f (198 + 4 * i) 0) * (3600 : Int32)))), some (.inl (x / (1000 : Int32)))]) (st' := [.inl ((((c2_putCharge_m (c2_wear_m (fl_row f (198 + 4 * i) (upd (upd (upd (f (198 + 4 * i)) 6 (((f (198 + 4 * i) 6) + ((((x / (1000 : Int32)) * (x / (1000 : Int32))) * (f (198 + 4 * i) 5)) / (500 : Int32))) + (((f 184 6) - ((f (198 + 4 * i) 6) + ((((x / (1000 : Int32)) * (x / (1000 : Int32))) * (f (198 + 4 * i) 5)) / (500 : Int32)))) / (32 : Int32)))) 7 ((f (198 + 4 * i) 7) + ((((x * (f 184 25)) / (1000 : Int32)) - (f (198 + 4 * i) 7)) / (8 : Int32)))) 9 ((f (198 + 4 * i) 9) + (t2_abs_v x)))) i (f 184 24)) i (t2_heldTo_v (((f (198 + 4 * i) 2) + x) - (f 184 27)) (0 : Int32) ((f (198 + 4 * i) 0) * (3600 : Int32)))) (198 + 4 * i) 8) + x) + (f 184 18)), .inr (.inr (.inl (66, 198 + 4 * i)))]) (m' := (c2_putCharge_m (c2_wear_m (fl_row f (198 + 4 * i) (upd (upd (upd (f (198 + 4 * i)) 6 (((f (198 + 4 * i) 6) + ((((x / (1000 : Int32)) * (x / (1000 : Int32))) * (f (198 + 4 * i) 5)) / (500 : Int32))) + (((f 184 6) - ((f (198 + 4 * i) 6) + ((((x / (1000 : Int32)) * (x / (1000 : Int32))) * (f (198 + 4 * i) 5)) / (500 : Int32)))) / (32 : Int32)))) 7 ((f (198 + 4 * i) 7) + ((((x * (f 184 25)) / (1000 : Int32)) - (f (198 + 4 * i) 7)) / (8 : Int32)))) 9 ((f (198 + 4 * i) 9) + (t2_abs_v x)))) i (f 184 24)) i (t2_heldTo_v (((f (198 + 4 * i) 2) + x) - (f 184 27)) (0 : Int32) ((f (198 + 4 * i) 0) * (3600 : Int32))), l)) rfl rfl (fl_oks_ok ⟨True.intro, True.intro, t2_kc2 hi, True.intro⟩) rfl ?_
  refine fl_Tq.cal rfl rfl (fl_oks_ok ⟨True.intro, t2_kc2 hi, True.intro⟩) rfl ?_
  refine c2_putReckoned_q hi ?_
  show fl_Tq _ 10 146 [some (.inr (.inr (.inl (66, 198 + 4 * i)))), some (.inl x), some (.inr (.inr (.inl (51, 183)))), some (.inr (.inr (.inl (52, 184)))), some (.inl (t2_heldTo_v (((f (198 + 4 * i) 2) + x) - (f 184 27)) (0 : Int32) ((f (198 + 4 * i) 0) * (3600 : Int32)))), some (.inl (x / (1000 : Int32)))] [] (c2_putReckoned_m (c2_putCharge_m (c2_wear_m (fl_row f (198 + 4 * i) (upd (upd (upd (f (198 + 4 * i)) 6 (((f (198 + 4 * i) 6) + ((((x / (1000 : Int32)) * (x / (1000 : Int32))) * (f (198 + 4 * i) 5)) / (500 : Int32))) + (((f 184 6) - ((f (198 + 4 * i) 6) + ((((x / (1000 : Int32)) * (x / (1000 : Int32))) * (f (198 + 4 * i) 5)) / (500 : Int32)))) / (32 : Int32)))) 7 ((f (198 + 4 * i) 7) + ((((x * (f 184 25)) / (1000 : Int32)) - (f (198 + 4 * i) 7)) / (8 : Int32)))) 9 ((f (198 + 4 * i) 9) + (t2_abs_v x)))) i (f 184 24)) i (t2_heldTo_v (((f (198 + 4 * i) 2) + x) - (f 184 27)) (0 : Int32) ((f (198 + 4 * i) 0) * (3600 : Int32)))) i ((((c2_putCharge_m (c2_wear_m (fl_row f (198 + 4 * i) (upd (upd (upd (f (198 + 4 * i)) 6 (((f (198 + 4 * i) 6) + ((((x / (1000 : Int32)) * (x / (1000 : Int32))) * (f (198 + 4 * i) 5)) / (500 : Int32))) + (((f 184 6) - ((f (198 + 4 * i) 6) + ((((x / (1000 : Int32)) * (x / (1000 : Int32))) * (f (198 + 4 * i) 5)) / (500 : Int32)))) / (32 : Int32)))) 7 ((f (198 + 4 * i) 7) + ((((x * (f 184 25)) / (1000 : Int32)) - (f (198 + 4 * i) 7)) / (8 : Int32)))) 9 ((f (198 + 4 * i) 9) + (t2_abs_v x)))) i (f 184 24)) i (t2_heldTo_v (((f (198 + 4 * i) 2) + x) - (f 184 27)) (0 : Int32) ((f (198 + 4 * i) 0) * (3600 : Int32)))) (198 + 4 * i) 8) + x) + (f 184 18)), l) _
  exact fl_Tq.ret rfl rfl rfl k
noncomputable def c2_measure_j15_0 (f : t2_F) (i : Nat) (x y : Int32) : Int32 := if (f (198 + 4 * i) 10).toInt = 0 then f (198 + 4 * i) 14 else (if (t2_abs_v (x - y)).toInt < (1000 : Int32).toInt then f (198 + 4 * i) 14 else (((c2_voltsAt_v f i x) - (f (198 + 4 * i) 11)) * (1000 : Int32)) / (x - y))
noncomputable def c2_measure_m (f : t2_F) (i : Nat) (x y : Int32) : t2_F := fl_row f (198 + 4 * i) (upd (upd (upd (f (198 + 4 * i)) 14 (c2_measure_j15_0 f i x y)) 11 (c2_voltsAt_v f i x)) 16 ((f (198 + 4 * i) 16) + x))
theorem c2_measure_fr {f : t2_F} {i : Nat} {x y : Int32} {p : Nat} (e0 : p ≠ 198 + 4 * i) : c2_measure_m f i x y p = f p := by
  unfold c2_measure_m
  repeat' split
  all_goals first | rfl | simp only [fl_row_ne e0]
theorem c2_measure_q {L : Nat} {xs : Nat → Int32} {f : t2_F} {l : t2_L} {Q : Option fl_V → fl_M → Prop} {i : Nat} {x y : Int32} (hi : i < 16) (k : Q none (c2_measure_m f i x y, l)) : fl_Tq (pw_P L xs) 14 0 (fl_args (am_mxl (pw_P L xs) 14) [.inr (.inr (.inl (66, 198 + 4 * i))), .inl x, .inl y]) [] (f, l) Q := by
  refine fl_Tq.stp (pc' := 1) (lv' := [some (.inr (.inr (.inl (66, 198 + 4 * i)))), some (.inl x), some (.inl y), none, none]) (st' := [.inr (.inr (.inl (66, 198 + 4 * i)))]) (m' := (f, l)) rfl rfl (fl_bo rfl) rfl ?_
  refine fl_Tq.stp (pc' := 2) (lv' := [some (.inr (.inr (.inl (66, 198 + 4 * i)))), some (.inl x), some (.inl y), none, none]) (st' := [.inl x, .inr (.inr (.inl (66, 198 + 4 * i)))]) (m' := (f, l)) rfl rfl (fl_oks_ok ⟨t2_kc2 hi, True.intro⟩) rfl ?_
  refine fl_Tq.cal rfl rfl (fl_oks_ok ⟨True.intro, t2_kc2 hi, True.intro⟩) rfl ?_
  refine c2_voltsAt_q hi ?_
  show fl_Tq _ 14 5 [some (.inr (.inr (.inl (66, 198 + 4 * i)))), some (.inl x), some (.inl y), none, none] [.inl (c2_voltsAt_v f i x)] (f, l) _
  refine fl_Tq.stp (pc' := 6) (lv' := [some (.inr (.inr (.inl (66, 198 + 4 * i)))), some (.inl x), some (.inl y), some (.inl (c2_voltsAt_v f i x)), none]) (st' := []) (m' := (f, l)) rfl rfl (fl_bo rfl) rfl ?_
  refine fl_Tq.stp (pc' := 7) (lv' := [some (.inr (.inr (.inl (66, 198 + 4 * i)))), some (.inl x), some (.inl y), some (.inl (c2_voltsAt_v f i x)), none]) (st' := [.inl x]) (m' := (f, l)) rfl rfl (fl_bo rfl) rfl ?_
  refine fl_Tq.stp (pc' := 8) (lv' := [some (.inr (.inr (.inl (66, 198 + 4 * i)))), some (.inl x), some (.inl y), some (.inl (c2_voltsAt_v f i x)), none]) (st' := [.inl y, .inl x]) (m' := (f, l)) rfl rfl (fl_bo rfl) rfl ?_
  refine fl_Tq.stp (pc' := 9) (lv' := [some (.inr (.inr (.inl (66, 198 + 4 * i)))), some (.inl x), some (.inl y), some (.inl (c2_voltsAt_v f i x)), none]) (st' := [.inl (x - y)]) (m' := (f, l)) rfl rfl (fl_bo rfl) rfl ?_
  refine fl_Tq.stp (pc' := 11) (lv' := [some (.inr (.inr (.inl (66, 198 + 4 * i)))), some (.inl x), some (.inl y), some (.inl (c2_voltsAt_v f i x)), some (.inl (x - y))]) (st' := []) (m' := (f, l)) rfl rfl (fl_bo rfl) rfl ?_
  refine fl_Tq.stp (pc' := 12) (lv' := [some (.inr (.inr (.inl (66, 198 + 4 * i)))), some (.inl x), some (.inl y), some (.inl (c2_voltsAt_v f i x)), some (.inl (x - y))]) (st' := [.inr (.inr (.inl (66, 198 + 4 * i)))]) (m' := (f, l)) rfl rfl (fl_bo rfl) rfl ?_
  refine fl_Tq.gfV (k := 10) (v := f (198 + 4 * i) 10) rfl (fl_oks_ok ⟨t2_kc2 hi, True.intro⟩) rfl rfl ?_
  have hj15 : fl_Tq (pw_P L xs) 14 46 [some (.inr (.inr (.inl (66, 198 + 4 * i)))), some (.inl x), some (.inl y), some (.inl (c2_voltsAt_v f i x)), some (.inl (x - y))] [] (fl_row f (198 + 4 * i) (upd (f (198 + 4 * i)) 14 (c2_measure_j15_0 f i x y)), l) Q → fl_Tq (pw_P L xs) 14 15 [some (.inr (.inr (.inl (66, 198 + 4 * i)))), some (.inl x), some (.inl y), some (.inl (c2_voltsAt_v f i x)), some (.inl (x - y))] [.inl (f (198 + 4 * i) 10)] (f, l) Q := by
    intro hJ
    by_cases h1 : (f (198 + 4 * i) 10).toInt = 0
    · refine fl_Tq.zt rfl (fl_bo rfl) (c1_eq_t h1) rfl ?_
      have e0 : (fl_row f (198 + 4 * i) (upd (f (198 + 4 * i)) 14 (c2_measure_j15_0 f i x y))) = f := by
        simp only [c2_measure_j15_0, if_pos h1]
        funext q j
        simp only [fl_row, upd]
        repeat' split
        all_goals first | rfl | simp_all
      rw [e0] at hJ
      exact hJ
    · refine fl_Tq.zf rfl (fl_bo rfl) (c1_eq_f h1) rfl ?_
      refine fl_Tq.stp (pc' := 20) (lv' := [some (.inr (.inr (.inl (66, 198 + 4 * i)))), some (.inl x), some (.inl y), some (.inl (c2_voltsAt_v f i x)), some (.inl (x - y))]) (st' := [.inl (x - y)]) (m' := (f, l)) rfl rfl (fl_bo rfl) rfl ?_
      refine fl_Tq.cal rfl rfl (fl_bo rfl) rfl ?_
      refine t2_abs_q  ?_
      show fl_Tq _ 14 23 [some (.inr (.inr (.inl (66, 198 + 4 * i)))), some (.inl x), some (.inl y), some (.inl (c2_voltsAt_v f i x)), some (.inl (x - y))] [.inl (t2_abs_v (x - y))] (f, l) _
      refine fl_Tq.cS (c := (1000 : Int32)) rfl (by decide +kernel) (fl_bo rfl) ?_
      by_cases h2 : (t2_abs_v (x - y)).toInt < (1000 : Int32).toInt
      · refine fl_Tq.jt rfl (fl_bo rfl) (c2_lt_t h2) rfl ?_
        have e0 : (fl_row f (198 + 4 * i) (upd (f (198 + 4 * i)) 14 (c2_measure_j15_0 f i x y))) = f := by
          simp only [c2_measure_j15_0, if_neg h1, if_pos h2]
          funext q j
          simp only [fl_row, upd]
          repeat' split
          all_goals first | rfl | simp_all
        rw [e0] at hJ
        exact hJ
      · refine fl_Tq.jf rfl (fl_bo rfl) (c2_lt_f h2) rfl ?_
        refine fl_Tq.stp (pc' := 30) (lv' := [some (.inr (.inr (.inl (66, 198 + 4 * i)))), some (.inl x), some (.inl y), some (.inl (c2_voltsAt_v f i x)), some (.inl (x - y))]) (st' := [.inr (.inr (.inl (66, 198 + 4 * i)))]) (m' := (f, l)) rfl rfl (fl_bo rfl) rfl ?_
        refine fl_Tq.stp (pc' := 31) (lv' := [some (.inr (.inr (.inl (66, 198 + 4 * i)))), some (.inl x), some (.inl y), some (.inl (c2_voltsAt_v f i x)), some (.inl (x - y))]) (st' := [.inl (c2_voltsAt_v f i x), .inr (.inr (.inl (66, 198 + 4 * i)))]) (m' := (f, l)) rfl rfl (fl_oks_ok ⟨t2_kc2 hi, True.intro⟩) rfl ?_
        refine fl_Tq.stp (pc' := 32) (lv' := [some (.inr (.inr (.inl (66, 198 + 4 * i)))), some (.inl x), some (.inl y), some (.inl (c2_voltsAt_v f i x)), some (.inl (x - y))]) (st' := [.inr (.inr (.inl (66, 198 + 4 * i))), .inl (c2_voltsAt_v f i x), .inr (.inr (.inl (66, 198 + 4 * i)))]) (m' := (f, l)) rfl rfl (fl_oks_ok ⟨True.intro, t2_kc2 hi, True.intro⟩) rfl ?_
        refine fl_Tq.gfV (k := 11) (v := f (198 + 4 * i) 11) rfl (fl_oks_ok ⟨t2_kc2 hi, True.intro, t2_kc2 hi, True.intro⟩) rfl rfl ?_
        refine fl_Tq.stp (pc' := 36) (lv' := [some (.inr (.inr (.inl (66, 198 + 4 * i)))), some (.inl x), some (.inl y), some (.inl (c2_voltsAt_v f i x)), some (.inl (x - y))]) (st' := [.inl ((c2_voltsAt_v f i x) - (f (198 + 4 * i) 11)), .inr (.inr (.inl (66, 198 + 4 * i)))]) (m' := (f, l)) rfl rfl (fl_oks_ok ⟨True.intro, True.intro, t2_kc2 hi, True.intro⟩) rfl ?_
        refine fl_Tq.cS (c := (1000 : Int32)) rfl (by decide +kernel) (fl_oks_ok ⟨True.intro, t2_kc2 hi, True.intro⟩) ?_
        refine fl_Tq.stp (pc' := 40) (lv' := [some (.inr (.inr (.inl (66, 198 + 4 * i)))), some (.inl x), some (.inl y), some (.inl (c2_voltsAt_v f i x)), some (.inl (x - y))]) (st' := [.inl (((c2_voltsAt_v f i x) - (f (198 + 4 * i) 11)) * (1000 : Int32)), .inr (.inr (.inl (66, 198 + 4 * i)))]) (m' := (f, l)) rfl rfl (fl_oks_ok ⟨True.intro, True.intro, t2_kc2 hi, True.intro⟩) rfl ?_
        refine fl_Tq.stp (pc' := 42) (lv' := [some (.inr (.inr (.inl (66, 198 + 4 * i)))), some (.inl x), some (.inl y), some (.inl (c2_voltsAt_v f i x)), some (.inl (x - y))]) (st' := [.inl (x - y), .inl (((c2_voltsAt_v f i x) - (f (198 + 4 * i) 11)) * (1000 : Int32)), .inr (.inr (.inl (66, 198 + 4 * i)))]) (m' := (f, l)) rfl rfl (fl_oks_ok ⟨True.intro, t2_kc2 hi, True.intro⟩) rfl ?_
        refine fl_Tq.dv rfl (fl_oks_ok ⟨True.intro, True.intro, t2_kc2 hi, True.intro⟩) (t2_abs_nz h2) ?_
        refine fl_Tq.pfV (k := 14) (m' := (fl_row f (198 + 4 * i) (upd (f (198 + 4 * i)) 14 ((((c2_voltsAt_v f i x) - (f (198 + 4 * i) 11)) * (1000 : Int32)) / (x - y))), l)) rfl (fl_oks_ok ⟨True.intro, t2_kc2 hi, True.intro⟩) rfl (t2_upn rfl) ?_
        have e0 : (fl_row f (198 + 4 * i) (upd (f (198 + 4 * i)) 14 (c2_measure_j15_0 f i x y))) = fl_row f (198 + 4 * i) (upd (f (198 + 4 * i)) 14 ((((c2_voltsAt_v f i x) - (f (198 + 4 * i) 11)) * (1000 : Int32)) / (x - y))) := by
          simp only [c2_measure_j15_0, if_neg h1, if_neg h2]
        rw [e0] at hJ
        exact hJ
  refine hj15 ?_
  show fl_Tq _ 14 46 [some (.inr (.inr (.inl (66, 198 + 4 * i)))), some (.inl x), some (.inl y), some (.inl (c2_voltsAt_v f i x)), some (.inl (x - y))] [] (fl_row f (198 + 4 * i) (upd (f (198 + 4 * i)) 14 (c2_measure_j15_0 f i x y)), l) _
  refine fl_Tq.stp (pc' := 47) (lv' := [some (.inr (.inr (.inl (66, 198 + 4 * i)))), some (.inl x), some (.inl y), some (.inl (c2_voltsAt_v f i x)), some (.inl (x - y))]) (st' := [.inr (.inr (.inl (66, 198 + 4 * i)))]) (m' := (fl_row f (198 + 4 * i) (upd (f (198 + 4 * i)) 14 (c2_measure_j15_0 f i x y)), l)) rfl rfl (fl_bo rfl) rfl ?_
  refine fl_Tq.stp (pc' := 48) (lv' := [some (.inr (.inr (.inl (66, 198 + 4 * i)))), some (.inl x), some (.inl y), some (.inl (c2_voltsAt_v f i x)), some (.inl (x - y))]) (st' := [.inl (c2_voltsAt_v f i x), .inr (.inr (.inl (66, 198 + 4 * i)))]) (m' := (fl_row f (198 + 4 * i) (upd (f (198 + 4 * i)) 14 (c2_measure_j15_0 f i x y)), l)) rfl rfl (fl_oks_ok ⟨t2_kc2 hi, True.intro⟩) rfl ?_
  refine fl_Tq.pfV (k := 11) (m' := (fl_row f (198 + 4 * i) (upd (upd (f (198 + 4 * i)) 14 (c2_measure_j15_0 f i x y)) 11 (c2_voltsAt_v f i x)), l)) rfl (fl_oks_ok ⟨True.intro, t2_kc2 hi, True.intro⟩) rfl (t2_upr) ?_
  refine fl_Tq.stp (pc' := 52) (lv' := [some (.inr (.inr (.inl (66, 198 + 4 * i)))), some (.inl x), some (.inl y), some (.inl (c2_voltsAt_v f i x)), some (.inl (x - y))]) (st' := [.inr (.inr (.inl (66, 198 + 4 * i)))]) (m' := (fl_row f (198 + 4 * i) (upd (upd (f (198 + 4 * i)) 14 (c2_measure_j15_0 f i x y)) 11 (c2_voltsAt_v f i x)), l)) rfl rfl (fl_bo rfl) rfl ?_
  refine fl_Tq.stp (pc' := 53) (lv' := [some (.inr (.inr (.inl (66, 198 + 4 * i)))), some (.inl x), some (.inl y), some (.inl (c2_voltsAt_v f i x)), some (.inl (x - y))]) (st' := [.inr (.inr (.inl (66, 198 + 4 * i))), .inr (.inr (.inl (66, 198 + 4 * i)))]) (m' := (fl_row f (198 + 4 * i) (upd (upd (f (198 + 4 * i)) 14 (c2_measure_j15_0 f i x y)) 11 (c2_voltsAt_v f i x)), l)) rfl rfl (fl_oks_ok ⟨t2_kc2 hi, True.intro⟩) rfl ?_
  refine fl_Tq.gfV (k := 16) (v := f (198 + 4 * i) 16) rfl (fl_oks_ok ⟨t2_kc2 hi, t2_kc2 hi, True.intro⟩) rfl (by simp only [fl_row_self, upd_ne (by decide : 16 ≠ 11), upd_ne (by decide : 16 ≠ 14)]) ?_
  refine fl_Tq.stp (pc' := 57) (lv' := [some (.inr (.inr (.inl (66, 198 + 4 * i)))), some (.inl x), some (.inl y), some (.inl (c2_voltsAt_v f i x)), some (.inl (x - y))]) (st' := [.inl x, .inl (f (198 + 4 * i) 16), .inr (.inr (.inl (66, 198 + 4 * i)))]) (m' := (fl_row f (198 + 4 * i) (upd (upd (f (198 + 4 * i)) 14 (c2_measure_j15_0 f i x y)) 11 (c2_voltsAt_v f i x)), l)) rfl rfl (fl_oks_ok ⟨True.intro, t2_kc2 hi, True.intro⟩) rfl ?_
  refine fl_Tq.stp (pc' := 58) (lv' := [some (.inr (.inr (.inl (66, 198 + 4 * i)))), some (.inl x), some (.inl y), some (.inl (c2_voltsAt_v f i x)), some (.inl (x - y))]) (st' := [.inl ((f (198 + 4 * i) 16) + x), .inr (.inr (.inl (66, 198 + 4 * i)))]) (m' := (fl_row f (198 + 4 * i) (upd (upd (f (198 + 4 * i)) 14 (c2_measure_j15_0 f i x y)) 11 (c2_voltsAt_v f i x)), l)) rfl rfl (fl_oks_ok ⟨True.intro, True.intro, t2_kc2 hi, True.intro⟩) rfl ?_
  refine fl_Tq.pfV (k := 16) (m' := (fl_row f (198 + 4 * i) (upd (upd (upd (f (198 + 4 * i)) 14 (c2_measure_j15_0 f i x y)) 11 (c2_voltsAt_v f i x)) 16 ((f (198 + 4 * i) 16) + x)), l)) rfl (fl_oks_ok ⟨True.intro, t2_kc2 hi, True.intro⟩) rfl (t2_upr) ?_
  exact fl_Tq.ret rfl rfl rfl k
noncomputable def c2_reckonAtRest_j36_0 (f : t2_F) (i : Nat) : Int32 := if ((c2_putReckoned_m f i (t2_chargeBy_v (t2_pb (c2_voltsAt_v f i (0 : Int32))) (f (198 + 4 * i) 0))) (198 + 4 * i) 17).toInt = (-1 : Int32).toInt then (c2_putReckoned_m f i (t2_chargeBy_v (t2_pb (c2_voltsAt_v f i (0 : Int32))) (f (198 + 4 * i) 0))) (198 + 4 * i) 15 else (if (t2_abs_v ((t2_pb (c2_voltsAt_v f i (0 : Int32))) - (f (198 + 4 * i) 17))).toInt < (100 : Int32).toInt then (c2_putReckoned_m f i (t2_chargeBy_v (t2_pb (c2_voltsAt_v f i (0 : Int32))) (f (198 + 4 * i) 0))) (198 + 4 * i) 15 else ((((t2_abs_v ((c2_putReckoned_m f i (t2_chargeBy_v (t2_pb (c2_voltsAt_v f i (0 : Int32))) (f (198 + 4 * i) 0))) (198 + 4 * i) 16)).toInt64) * (1000 : Int64)) / (((t2_abs_v ((t2_pb (c2_voltsAt_v f i (0 : Int32))) - (f (198 + 4 * i) 17))).toInt64) * (3600 : Int64))).toInt32)
noncomputable def c2_reckonAtRest_m (f : t2_F) (i : Nat) : t2_F := fl_row (c2_putReckoned_m f i (t2_chargeBy_v (t2_pb (c2_voltsAt_v f i (0 : Int32))) (f (198 + 4 * i) 0))) (198 + 4 * i) (upd (upd (upd ((c2_putReckoned_m f i (t2_chargeBy_v (t2_pb (c2_voltsAt_v f i (0 : Int32))) (f (198 + 4 * i) 0))) (198 + 4 * i)) 15 (c2_reckonAtRest_j36_0 f i)) 17 (t2_pb (c2_voltsAt_v f i (0 : Int32)))) 16 (0 : Int32))
theorem c2_reckonAtRest_fr {f : t2_F} {i : Nat} {p : Nat} (e0 : p ≠ 198 + 4 * i) : c2_reckonAtRest_m f i p = f p := by
  unfold c2_reckonAtRest_m
  repeat' split
  all_goals first | rfl | simp only [fl_row_ne e0, c2_putReckoned_fr e0]
theorem c2_reckonAtRest_q {L : Nat} {xs : Nat → Int32} {f : t2_F} {l : t2_L} {Q : Option fl_V → fl_M → Prop} {i : Nat} (hi : i < 16) (k : Q none (c2_reckonAtRest_m f i, l)) : fl_Tq (pw_P L xs) 15 0 (fl_args (am_mxl (pw_P L xs) 15) [.inr (.inr (.inl (66, 198 + 4 * i)))]) [] (f, l) Q := by
  refine fl_Tq.stp (pc' := 1) (lv' := [some (.inr (.inr (.inl (66, 198 + 4 * i)))), none, none]) (st' := [.inr (.inr (.inl (66, 198 + 4 * i)))]) (m' := (f, l)) rfl rfl (fl_bo rfl) rfl ?_
  refine fl_Tq.cI (c := (0 : Int32)) rfl (by decide +kernel) (fl_oks_ok ⟨t2_kc2 hi, True.intro⟩) ?_
  refine fl_Tq.cal rfl rfl (fl_oks_ok ⟨True.intro, t2_kc2 hi, True.intro⟩) rfl ?_
  refine c2_voltsAt_q hi ?_
  show fl_Tq _ 15 5 [some (.inr (.inr (.inl (66, 198 + 4 * i)))), none, none] [.inl (c2_voltsAt_v f i (0 : Int32))] (f, l) _
  refine fl_Tq.cal rfl rfl (fl_bo rfl) rfl ?_
  refine t2_pb_q  ?_
  show fl_Tq _ 15 8 [some (.inr (.inr (.inl (66, 198 + 4 * i)))), none, none] [.inl (t2_pb (c2_voltsAt_v f i (0 : Int32)))] (f, l) _
  refine fl_Tq.stp (pc' := 9) (lv' := [some (.inr (.inr (.inl (66, 198 + 4 * i)))), some (.inl (t2_pb (c2_voltsAt_v f i (0 : Int32)))), none]) (st' := []) (m' := (f, l)) rfl rfl (fl_bo rfl) rfl ?_
  refine fl_Tq.stp (pc' := 10) (lv' := [some (.inr (.inr (.inl (66, 198 + 4 * i)))), some (.inl (t2_pb (c2_voltsAt_v f i (0 : Int32)))), none]) (st' := [.inl (t2_pb (c2_voltsAt_v f i (0 : Int32)))]) (m' := (f, l)) rfl rfl (fl_bo rfl) rfl ?_
  refine fl_Tq.stp (pc' := 11) (lv' := [some (.inr (.inr (.inl (66, 198 + 4 * i)))), some (.inl (t2_pb (c2_voltsAt_v f i (0 : Int32)))), none]) (st' := [.inr (.inr (.inl (66, 198 + 4 * i))), .inl (t2_pb (c2_voltsAt_v f i (0 : Int32)))]) (m' := (f, l)) rfl rfl (fl_bo rfl) rfl ?_
  refine fl_Tq.gfV (k := 17) (v := f (198 + 4 * i) 17) rfl (fl_oks_ok ⟨t2_kc2 hi, True.intro, True.intro⟩) rfl rfl ?_
  refine fl_Tq.stp (pc' := 15) (lv' := [some (.inr (.inr (.inl (66, 198 + 4 * i)))), some (.inl (t2_pb (c2_voltsAt_v f i (0 : Int32)))), none]) (st' := [.inl ((t2_pb (c2_voltsAt_v f i (0 : Int32))) - (f (198 + 4 * i) 17))]) (m' := (f, l)) rfl rfl (fl_bo rfl) rfl ?_
  refine fl_Tq.cal rfl rfl (fl_bo rfl) rfl ?_
  refine t2_abs_q  ?_
  show fl_Tq _ 15 18 [some (.inr (.inr (.inl (66, 198 + 4 * i)))), some (.inl (t2_pb (c2_voltsAt_v f i (0 : Int32)))), none] [.inl (t2_abs_v ((t2_pb (c2_voltsAt_v f i (0 : Int32))) - (f (198 + 4 * i) 17)))] (f, l) _
  refine fl_Tq.stp (pc' := 19) (lv' := [some (.inr (.inr (.inl (66, 198 + 4 * i)))), some (.inl (t2_pb (c2_voltsAt_v f i (0 : Int32)))), some (.inl (t2_abs_v ((t2_pb (c2_voltsAt_v f i (0 : Int32))) - (f (198 + 4 * i) 17))))]) (st' := []) (m' := (f, l)) rfl rfl (fl_bo rfl) rfl ?_
  refine fl_Tq.stp (pc' := 20) (lv' := [some (.inr (.inr (.inl (66, 198 + 4 * i)))), some (.inl (t2_pb (c2_voltsAt_v f i (0 : Int32)))), some (.inl (t2_abs_v ((t2_pb (c2_voltsAt_v f i (0 : Int32))) - (f (198 + 4 * i) 17))))]) (st' := [.inr (.inr (.inl (66, 198 + 4 * i)))]) (m' := (f, l)) rfl rfl (fl_bo rfl) rfl ?_
  refine fl_Tq.stp (pc' := 21) (lv' := [some (.inr (.inr (.inl (66, 198 + 4 * i)))), some (.inl (t2_pb (c2_voltsAt_v f i (0 : Int32)))), some (.inl (t2_abs_v ((t2_pb (c2_voltsAt_v f i (0 : Int32))) - (f (198 + 4 * i) 17))))]) (st' := [.inl (t2_pb (c2_voltsAt_v f i (0 : Int32))), .inr (.inr (.inl (66, 198 + 4 * i)))]) (m' := (f, l)) rfl rfl (fl_oks_ok ⟨t2_kc2 hi, True.intro⟩) rfl ?_
  refine fl_Tq.stp (pc' := 22) (lv' := [some (.inr (.inr (.inl (66, 198 + 4 * i)))), some (.inl (t2_pb (c2_voltsAt_v f i (0 : Int32)))), some (.inl (t2_abs_v ((t2_pb (c2_voltsAt_v f i (0 : Int32))) - (f (198 + 4 * i) 17))))]) (st' := [.inr (.inr (.inl (66, 198 + 4 * i))), .inl (t2_pb (c2_voltsAt_v f i (0 : Int32))), .inr (.inr (.inl (66, 198 + 4 * i)))]) (m' := (f, l)) rfl rfl (fl_oks_ok ⟨True.intro, t2_kc2 hi, True.intro⟩) rfl ?_
  refine fl_Tq.gfV (k := 0) (v := f (198 + 4 * i) 0) rfl (fl_oks_ok ⟨t2_kc2 hi, True.intro, t2_kc2 hi, True.intro⟩) rfl rfl ?_
  refine fl_Tq.cal rfl rfl (fl_oks_ok ⟨True.intro, True.intro, t2_kc2 hi, True.intro⟩) rfl ?_
  refine t2_chargeBy_q  ?_
  show fl_Tq _ 15 28 [some (.inr (.inr (.inl (66, 198 + 4 * i)))), some (.inl (t2_pb (c2_voltsAt_v f i (0 : Int32)))), some (.inl (t2_abs_v ((t2_pb (c2_voltsAt_v f i (0 : Int32))) - (f (198 + 4 * i) 17))))] [.inl (t2_chargeBy_v (t2_pb (c2_voltsAt_v f i (0 : Int32))) (f (198 + 4 * i) 0)), .inr (.inr (.inl (66, 198 + 4 * i)))] (f, l) _
  refine fl_Tq.cal rfl rfl (fl_oks_ok ⟨True.intro, t2_kc2 hi, True.intro⟩) rfl ?_
  refine c2_putReckoned_q hi ?_
  show fl_Tq _ 15 31 [some (.inr (.inr (.inl (66, 198 + 4 * i)))), some (.inl (t2_pb (c2_voltsAt_v f i (0 : Int32)))), some (.inl (t2_abs_v ((t2_pb (c2_voltsAt_v f i (0 : Int32))) - (f (198 + 4 * i) 17))))] [] (c2_putReckoned_m f i (t2_chargeBy_v (t2_pb (c2_voltsAt_v f i (0 : Int32))) (f (198 + 4 * i) 0)), l) _
  refine fl_Tq.stp (pc' := 32) (lv' := [some (.inr (.inr (.inl (66, 198 + 4 * i)))), some (.inl (t2_pb (c2_voltsAt_v f i (0 : Int32)))), some (.inl (t2_abs_v ((t2_pb (c2_voltsAt_v f i (0 : Int32))) - (f (198 + 4 * i) 17))))]) (st' := [.inr (.inr (.inl (66, 198 + 4 * i)))]) (m' := (c2_putReckoned_m f i (t2_chargeBy_v (t2_pb (c2_voltsAt_v f i (0 : Int32))) (f (198 + 4 * i) 0)), l)) rfl rfl (fl_bo rfl) rfl ?_
  refine fl_Tq.gfV (k := 17) (v := (c2_putReckoned_m f i (t2_chargeBy_v (t2_pb (c2_voltsAt_v f i (0 : Int32))) (f (198 + 4 * i) 0))) (198 + 4 * i) 17) rfl (fl_oks_ok ⟨t2_kc2 hi, True.intro⟩) rfl rfl ?_
  refine fl_Tq.cI (c := (-1 : Int32)) rfl (by decide +kernel) (fl_bo rfl) ?_
  have hj16 : fl_Tq (pw_P L xs) 15 69 [some (.inr (.inr (.inl (66, 198 + 4 * i)))), some (.inl (t2_pb (c2_voltsAt_v f i (0 : Int32)))), some (.inl (t2_abs_v ((t2_pb (c2_voltsAt_v f i (0 : Int32))) - (f (198 + 4 * i) 17))))] [] (fl_row (c2_putReckoned_m f i (t2_chargeBy_v (t2_pb (c2_voltsAt_v f i (0 : Int32))) (f (198 + 4 * i) 0))) (198 + 4 * i) (upd ((c2_putReckoned_m f i (t2_chargeBy_v (t2_pb (c2_voltsAt_v f i (0 : Int32))) (f (198 + 4 * i) 0))) (198 + 4 * i)) 15 (c2_reckonAtRest_j36_0 f i)), l) Q → fl_Tq (pw_P L xs) 15 36 [some (.inr (.inr (.inl (66, 198 + 4 * i)))), some (.inl (t2_pb (c2_voltsAt_v f i (0 : Int32)))), some (.inl (t2_abs_v ((t2_pb (c2_voltsAt_v f i (0 : Int32))) - (f (198 + 4 * i) 17))))] [.inl (-1 : Int32), .inl ((c2_putReckoned_m f i (t2_chargeBy_v (t2_pb (c2_voltsAt_v f i (0 : Int32))) (f (198 + 4 * i) 0))) (198 + 4 * i) 17)] (c2_putReckoned_m f i (t2_chargeBy_v (t2_pb (c2_voltsAt_v f i (0 : Int32))) (f (198 + 4 * i) 0)), l) Q := by
    intro hJ
    by_cases h1 : ((c2_putReckoned_m f i (t2_chargeBy_v (t2_pb (c2_voltsAt_v f i (0 : Int32))) (f (198 + 4 * i) 0))) (198 + 4 * i) 17).toInt = (-1 : Int32).toInt
    · refine fl_Tq.jt rfl (fl_bo rfl) (c2_eq_t h1) rfl ?_
      have e0 : (fl_row (c2_putReckoned_m f i (t2_chargeBy_v (t2_pb (c2_voltsAt_v f i (0 : Int32))) (f (198 + 4 * i) 0))) (198 + 4 * i) (upd ((c2_putReckoned_m f i (t2_chargeBy_v (t2_pb (c2_voltsAt_v f i (0 : Int32))) (f (198 + 4 * i) 0))) (198 + 4 * i)) 15 (c2_reckonAtRest_j36_0 f i))) = c2_putReckoned_m f i (t2_chargeBy_v (t2_pb (c2_voltsAt_v f i (0 : Int32))) (f (198 + 4 * i) 0)) := by
        simp only [c2_reckonAtRest_j36_0, if_pos h1]
        funext q j
        simp only [fl_row, upd]
        repeat' split
        all_goals first | rfl | simp_all
      rw [e0] at hJ
      exact hJ
    · refine fl_Tq.jf rfl (fl_bo rfl) (c2_eq_f h1) rfl ?_
      refine fl_Tq.stp (pc' := 40) (lv' := [some (.inr (.inr (.inl (66, 198 + 4 * i)))), some (.inl (t2_pb (c2_voltsAt_v f i (0 : Int32)))), some (.inl (t2_abs_v ((t2_pb (c2_voltsAt_v f i (0 : Int32))) - (f (198 + 4 * i) 17))))]) (st' := [.inl (t2_abs_v ((t2_pb (c2_voltsAt_v f i (0 : Int32))) - (f (198 + 4 * i) 17)))]) (m' := (c2_putReckoned_m f i (t2_chargeBy_v (t2_pb (c2_voltsAt_v f i (0 : Int32))) (f (198 + 4 * i) 0)), l)) rfl rfl (fl_bo rfl) rfl ?_
      refine fl_Tq.cB (c := (100 : Int32)) rfl (by decide +kernel) (fl_bo rfl) ?_
      by_cases h2 : (t2_abs_v ((t2_pb (c2_voltsAt_v f i (0 : Int32))) - (f (198 + 4 * i) 17))).toInt < (100 : Int32).toInt
      · refine fl_Tq.jt rfl (fl_bo rfl) (c2_lt_t h2) rfl ?_
        have e0 : (fl_row (c2_putReckoned_m f i (t2_chargeBy_v (t2_pb (c2_voltsAt_v f i (0 : Int32))) (f (198 + 4 * i) 0))) (198 + 4 * i) (upd ((c2_putReckoned_m f i (t2_chargeBy_v (t2_pb (c2_voltsAt_v f i (0 : Int32))) (f (198 + 4 * i) 0))) (198 + 4 * i)) 15 (c2_reckonAtRest_j36_0 f i))) = c2_putReckoned_m f i (t2_chargeBy_v (t2_pb (c2_voltsAt_v f i (0 : Int32))) (f (198 + 4 * i) 0)) := by
          simp only [c2_reckonAtRest_j36_0, if_neg h1, if_pos h2]
          funext q j
          simp only [fl_row, upd]
          repeat' split
          all_goals first | rfl | simp_all
        rw [e0] at hJ
        exact hJ
      · refine fl_Tq.jf rfl (fl_bo rfl) (c2_lt_f h2) rfl ?_
        refine fl_Tq.stp (pc' := 46) (lv' := [some (.inr (.inr (.inl (66, 198 + 4 * i)))), some (.inl (t2_pb (c2_voltsAt_v f i (0 : Int32)))), some (.inl (t2_abs_v ((t2_pb (c2_voltsAt_v f i (0 : Int32))) - (f (198 + 4 * i) 17))))]) (st' := [.inr (.inr (.inl (66, 198 + 4 * i)))]) (m' := (c2_putReckoned_m f i (t2_chargeBy_v (t2_pb (c2_voltsAt_v f i (0 : Int32))) (f (198 + 4 * i) 0)), l)) rfl rfl (fl_bo rfl) rfl ?_
        refine fl_Tq.stp (pc' := 47) (lv' := [some (.inr (.inr (.inl (66, 198 + 4 * i)))), some (.inl (t2_pb (c2_voltsAt_v f i (0 : Int32)))), some (.inl (t2_abs_v ((t2_pb (c2_voltsAt_v f i (0 : Int32))) - (f (198 + 4 * i) 17))))]) (st' := [.inr (.inr (.inl (66, 198 + 4 * i))), .inr (.inr (.inl (66, 198 + 4 * i)))]) (m' := (c2_putReckoned_m f i (t2_chargeBy_v (t2_pb (c2_voltsAt_v f i (0 : Int32))) (f (198 + 4 * i) 0)), l)) rfl rfl (fl_oks_ok ⟨t2_kc2 hi, True.intro⟩) rfl ?_
        refine fl_Tq.gfV (k := 16) (v := (c2_putReckoned_m f i (t2_chargeBy_v (t2_pb (c2_voltsAt_v f i (0 : Int32))) (f (198 + 4 * i) 0))) (198 + 4 * i) 16) rfl (fl_oks_ok ⟨t2_kc2 hi, t2_kc2 hi, True.intro⟩) rfl rfl ?_
        refine fl_Tq.cal rfl rfl (fl_oks_ok ⟨True.intro, t2_kc2 hi, True.intro⟩) rfl ?_
        refine t2_abs_q  ?_
        show fl_Tq _ 15 53 [some (.inr (.inr (.inl (66, 198 + 4 * i)))), some (.inl (t2_pb (c2_voltsAt_v f i (0 : Int32)))), some (.inl (t2_abs_v ((t2_pb (c2_voltsAt_v f i (0 : Int32))) - (f (198 + 4 * i) 17))))] [.inl (t2_abs_v ((c2_putReckoned_m f i (t2_chargeBy_v (t2_pb (c2_voltsAt_v f i (0 : Int32))) (f (198 + 4 * i) 0))) (198 + 4 * i) 16)), .inr (.inr (.inl (66, 198 + 4 * i)))] (c2_putReckoned_m f i (t2_chargeBy_v (t2_pb (c2_voltsAt_v f i (0 : Int32))) (f (198 + 4 * i) 0)), l) _
        refine fl_Tq.stp (pc' := 54) (lv' := [some (.inr (.inr (.inl (66, 198 + 4 * i)))), some (.inl (t2_pb (c2_voltsAt_v f i (0 : Int32)))), some (.inl (t2_abs_v ((t2_pb (c2_voltsAt_v f i (0 : Int32))) - (f (198 + 4 * i) 17))))]) (st' := [.inr (.inl ((t2_abs_v ((c2_putReckoned_m f i (t2_chargeBy_v (t2_pb (c2_voltsAt_v f i (0 : Int32))) (f (198 + 4 * i) 0))) (198 + 4 * i) 16)).toInt64)), .inr (.inr (.inl (66, 198 + 4 * i)))]) (m' := (c2_putReckoned_m f i (t2_chargeBy_v (t2_pb (c2_voltsAt_v f i (0 : Int32))) (f (198 + 4 * i) 0)), l)) rfl rfl (fl_oks_ok ⟨True.intro, t2_kc2 hi, True.intro⟩) rfl ?_
        refine fl_Tq.stp (pc' := 57) (lv' := [some (.inr (.inr (.inl (66, 198 + 4 * i)))), some (.inl (t2_pb (c2_voltsAt_v f i (0 : Int32)))), some (.inl (t2_abs_v ((t2_pb (c2_voltsAt_v f i (0 : Int32))) - (f (198 + 4 * i) 17))))]) (st' := [.inr (.inl (1000 : Int64)), .inr (.inl ((t2_abs_v ((c2_putReckoned_m f i (t2_chargeBy_v (t2_pb (c2_voltsAt_v f i (0 : Int32))) (f (198 + 4 * i) 0))) (198 + 4 * i) 16)).toInt64)), .inr (.inr (.inl (66, 198 + 4 * i)))]) (m' := (c2_putReckoned_m f i (t2_chargeBy_v (t2_pb (c2_voltsAt_v f i (0 : Int32))) (f (198 + 4 * i) 0)), l)) rfl rfl (fl_oks_ok ⟨True.intro, t2_kc2 hi, True.intro⟩) rfl ?_
        refine fl_Tq.stp (pc' := 58) (lv' := [some (.inr (.inr (.inl (66, 198 + 4 * i)))), some (.inl (t2_pb (c2_voltsAt_v f i (0 : Int32)))), some (.inl (t2_abs_v ((t2_pb (c2_voltsAt_v f i (0 : Int32))) - (f (198 + 4 * i) 17))))]) (st' := [.inr (.inl (((t2_abs_v ((c2_putReckoned_m f i (t2_chargeBy_v (t2_pb (c2_voltsAt_v f i (0 : Int32))) (f (198 + 4 * i) 0))) (198 + 4 * i) 16)).toInt64) * (1000 : Int64))), .inr (.inr (.inl (66, 198 + 4 * i)))]) (m' := (c2_putReckoned_m f i (t2_chargeBy_v (t2_pb (c2_voltsAt_v f i (0 : Int32))) (f (198 + 4 * i) 0)), l)) rfl rfl (fl_oks_ok ⟨True.intro, True.intro, t2_kc2 hi, True.intro⟩) rfl ?_
        refine fl_Tq.stp (pc' := 59) (lv' := [some (.inr (.inr (.inl (66, 198 + 4 * i)))), some (.inl (t2_pb (c2_voltsAt_v f i (0 : Int32)))), some (.inl (t2_abs_v ((t2_pb (c2_voltsAt_v f i (0 : Int32))) - (f (198 + 4 * i) 17))))]) (st' := [.inl (t2_abs_v ((t2_pb (c2_voltsAt_v f i (0 : Int32))) - (f (198 + 4 * i) 17))), .inr (.inl (((t2_abs_v ((c2_putReckoned_m f i (t2_chargeBy_v (t2_pb (c2_voltsAt_v f i (0 : Int32))) (f (198 + 4 * i) 0))) (198 + 4 * i) 16)).toInt64) * (1000 : Int64))), .inr (.inr (.inl (66, 198 + 4 * i)))]) (m' := (c2_putReckoned_m f i (t2_chargeBy_v (t2_pb (c2_voltsAt_v f i (0 : Int32))) (f (198 + 4 * i) 0)), l)) rfl rfl (fl_oks_ok ⟨True.intro, t2_kc2 hi, True.intro⟩) rfl ?_
        refine fl_Tq.stp (pc' := 60) (lv' := [some (.inr (.inr (.inl (66, 198 + 4 * i)))), some (.inl (t2_pb (c2_voltsAt_v f i (0 : Int32)))), some (.inl (t2_abs_v ((t2_pb (c2_voltsAt_v f i (0 : Int32))) - (f (198 + 4 * i) 17))))]) (st' := [.inr (.inl ((t2_abs_v ((t2_pb (c2_voltsAt_v f i (0 : Int32))) - (f (198 + 4 * i) 17))).toInt64)), .inr (.inl (((t2_abs_v ((c2_putReckoned_m f i (t2_chargeBy_v (t2_pb (c2_voltsAt_v f i (0 : Int32))) (f (198 + 4 * i) 0))) (198 + 4 * i) 16)).toInt64) * (1000 : Int64))), .inr (.inr (.inl (66, 198 + 4 * i)))]) (m' := (c2_putReckoned_m f i (t2_chargeBy_v (t2_pb (c2_voltsAt_v f i (0 : Int32))) (f (198 + 4 * i) 0)), l)) rfl rfl (fl_oks_ok ⟨True.intro, True.intro, t2_kc2 hi, True.intro⟩) rfl ?_
        refine fl_Tq.stp (pc' := 63) (lv' := [some (.inr (.inr (.inl (66, 198 + 4 * i)))), some (.inl (t2_pb (c2_voltsAt_v f i (0 : Int32)))), some (.inl (t2_abs_v ((t2_pb (c2_voltsAt_v f i (0 : Int32))) - (f (198 + 4 * i) 17))))]) (st' := [.inr (.inl (3600 : Int64)), .inr (.inl ((t2_abs_v ((t2_pb (c2_voltsAt_v f i (0 : Int32))) - (f (198 + 4 * i) 17))).toInt64)), .inr (.inl (((t2_abs_v ((c2_putReckoned_m f i (t2_chargeBy_v (t2_pb (c2_voltsAt_v f i (0 : Int32))) (f (198 + 4 * i) 0))) (198 + 4 * i) 16)).toInt64) * (1000 : Int64))), .inr (.inr (.inl (66, 198 + 4 * i)))]) (m' := (c2_putReckoned_m f i (t2_chargeBy_v (t2_pb (c2_voltsAt_v f i (0 : Int32))) (f (198 + 4 * i) 0)), l)) rfl rfl (fl_oks_ok ⟨True.intro, True.intro, t2_kc2 hi, True.intro⟩) rfl ?_
        refine fl_Tq.stp (pc' := 64) (lv' := [some (.inr (.inr (.inl (66, 198 + 4 * i)))), some (.inl (t2_pb (c2_voltsAt_v f i (0 : Int32)))), some (.inl (t2_abs_v ((t2_pb (c2_voltsAt_v f i (0 : Int32))) - (f (198 + 4 * i) 17))))]) (st' := [.inr (.inl (((t2_abs_v ((t2_pb (c2_voltsAt_v f i (0 : Int32))) - (f (198 + 4 * i) 17))).toInt64) * (3600 : Int64))), .inr (.inl (((t2_abs_v ((c2_putReckoned_m f i (t2_chargeBy_v (t2_pb (c2_voltsAt_v f i (0 : Int32))) (f (198 + 4 * i) 0))) (198 + 4 * i) 16)).toInt64) * (1000 : Int64))), .inr (.inr (.inl (66, 198 + 4 * i)))]) (m' := (c2_putReckoned_m f i (t2_chargeBy_v (t2_pb (c2_voltsAt_v f i (0 : Int32))) (f (198 + 4 * i) 0)), l)) rfl rfl (fl_oks_ok ⟨True.intro, True.intro, True.intro, t2_kc2 hi, True.intro⟩) rfl ?_
        refine fl_Tq.dvJ rfl (fl_oks_ok ⟨True.intro, True.intro, t2_kc2 hi, True.intro⟩) (t2_way_nz h2) ?_
        refine fl_Tq.stp (pc' := 66) (lv' := [some (.inr (.inr (.inl (66, 198 + 4 * i)))), some (.inl (t2_pb (c2_voltsAt_v f i (0 : Int32)))), some (.inl (t2_abs_v ((t2_pb (c2_voltsAt_v f i (0 : Int32))) - (f (198 + 4 * i) 17))))]) (st' := [.inl (((((t2_abs_v ((c2_putReckoned_m f i (t2_chargeBy_v (t2_pb (c2_voltsAt_v f i (0 : Int32))) (f (198 + 4 * i) 0))) (198 + 4 * i) 16)).toInt64) * (1000 : Int64)) / (((t2_abs_v ((t2_pb (c2_voltsAt_v f i (0 : Int32))) - (f (198 + 4 * i) 17))).toInt64) * (3600 : Int64))).toInt32), .inr (.inr (.inl (66, 198 + 4 * i)))]) (m' := (c2_putReckoned_m f i (t2_chargeBy_v (t2_pb (c2_voltsAt_v f i (0 : Int32))) (f (198 + 4 * i) 0)), l)) rfl rfl (fl_oks_ok ⟨True.intro, t2_kc2 hi, True.intro⟩) rfl ?_
        refine fl_Tq.pfV (k := 15) (m' := (fl_row (c2_putReckoned_m f i (t2_chargeBy_v (t2_pb (c2_voltsAt_v f i (0 : Int32))) (f (198 + 4 * i) 0))) (198 + 4 * i) (upd ((c2_putReckoned_m f i (t2_chargeBy_v (t2_pb (c2_voltsAt_v f i (0 : Int32))) (f (198 + 4 * i) 0))) (198 + 4 * i)) 15 (((((t2_abs_v ((c2_putReckoned_m f i (t2_chargeBy_v (t2_pb (c2_voltsAt_v f i (0 : Int32))) (f (198 + 4 * i) 0))) (198 + 4 * i) 16)).toInt64) * (1000 : Int64)) / (((t2_abs_v ((t2_pb (c2_voltsAt_v f i (0 : Int32))) - (f (198 + 4 * i) 17))).toInt64) * (3600 : Int64))).toInt32)), l)) rfl (fl_oks_ok ⟨True.intro, t2_kc2 hi, True.intro⟩) rfl (t2_upn rfl) ?_
        have e0 : (fl_row (c2_putReckoned_m f i (t2_chargeBy_v (t2_pb (c2_voltsAt_v f i (0 : Int32))) (f (198 + 4 * i) 0))) (198 + 4 * i) (upd ((c2_putReckoned_m f i (t2_chargeBy_v (t2_pb (c2_voltsAt_v f i (0 : Int32))) (f (198 + 4 * i) 0))) (198 + 4 * i)) 15 (c2_reckonAtRest_j36_0 f i))) = fl_row (c2_putReckoned_m f i (t2_chargeBy_v (t2_pb (c2_voltsAt_v f i (0 : Int32))) (f (198 + 4 * i) 0))) (198 + 4 * i) (upd ((c2_putReckoned_m f i (t2_chargeBy_v (t2_pb (c2_voltsAt_v f i (0 : Int32))) (f (198 + 4 * i) 0))) (198 + 4 * i)) 15 (((((t2_abs_v ((c2_putReckoned_m f i (t2_chargeBy_v (t2_pb (c2_voltsAt_v f i (0 : Int32))) (f (198 + 4 * i) 0))) (198 + 4 * i) 16)).toInt64) * (1000 : Int64)) / (((t2_abs_v ((t2_pb (c2_voltsAt_v f i (0 : Int32))) - (f (198 + 4 * i) 17))).toInt64) * (3600 : Int64))).toInt32)) := by
          simp only [c2_reckonAtRest_j36_0, if_neg h1, if_neg h2]
        rw [e0] at hJ
        exact hJ
  refine hj16 ?_
  show fl_Tq _ 15 69 [some (.inr (.inr (.inl (66, 198 + 4 * i)))), some (.inl (t2_pb (c2_voltsAt_v f i (0 : Int32)))), some (.inl (t2_abs_v ((t2_pb (c2_voltsAt_v f i (0 : Int32))) - (f (198 + 4 * i) 17))))] [] (fl_row (c2_putReckoned_m f i (t2_chargeBy_v (t2_pb (c2_voltsAt_v f i (0 : Int32))) (f (198 + 4 * i) 0))) (198 + 4 * i) (upd ((c2_putReckoned_m f i (t2_chargeBy_v (t2_pb (c2_voltsAt_v f i (0 : Int32))) (f (198 + 4 * i) 0))) (198 + 4 * i)) 15 (c2_reckonAtRest_j36_0 f i)), l) _
  refine fl_Tq.stp (pc' := 70) (lv' := [some (.inr (.inr (.inl (66, 198 + 4 * i)))), some (.inl (t2_pb (c2_voltsAt_v f i (0 : Int32)))), some (.inl (t2_abs_v ((t2_pb (c2_voltsAt_v f i (0 : Int32))) - (f (198 + 4 * i) 17))))]) (st' := [.inr (.inr (.inl (66, 198 + 4 * i)))]) (m' := (fl_row (c2_putReckoned_m f i (t2_chargeBy_v (t2_pb (c2_voltsAt_v f i (0 : Int32))) (f (198 + 4 * i) 0))) (198 + 4 * i) (upd ((c2_putReckoned_m f i (t2_chargeBy_v (t2_pb (c2_voltsAt_v f i (0 : Int32))) (f (198 + 4 * i) 0))) (198 + 4 * i)) 15 (c2_reckonAtRest_j36_0 f i)), l)) rfl rfl (fl_bo rfl) rfl ?_
  refine fl_Tq.stp (pc' := 71) (lv' := [some (.inr (.inr (.inl (66, 198 + 4 * i)))), some (.inl (t2_pb (c2_voltsAt_v f i (0 : Int32)))), some (.inl (t2_abs_v ((t2_pb (c2_voltsAt_v f i (0 : Int32))) - (f (198 + 4 * i) 17))))]) (st' := [.inl (t2_pb (c2_voltsAt_v f i (0 : Int32))), .inr (.inr (.inl (66, 198 + 4 * i)))]) (m' := (fl_row (c2_putReckoned_m f i (t2_chargeBy_v (t2_pb (c2_voltsAt_v f i (0 : Int32))) (f (198 + 4 * i) 0))) (198 + 4 * i) (upd ((c2_putReckoned_m f i (t2_chargeBy_v (t2_pb (c2_voltsAt_v f i (0 : Int32))) (f (198 + 4 * i) 0))) (198 + 4 * i)) 15 (c2_reckonAtRest_j36_0 f i)), l)) rfl rfl (fl_oks_ok ⟨t2_kc2 hi, True.intro⟩) rfl ?_
  refine fl_Tq.pfV (k := 17) (m' := (fl_row (c2_putReckoned_m f i (t2_chargeBy_v (t2_pb (c2_voltsAt_v f i (0 : Int32))) (f (198 + 4 * i) 0))) (198 + 4 * i) (upd (upd ((c2_putReckoned_m f i (t2_chargeBy_v (t2_pb (c2_voltsAt_v f i (0 : Int32))) (f (198 + 4 * i) 0))) (198 + 4 * i)) 15 (c2_reckonAtRest_j36_0 f i)) 17 (t2_pb (c2_voltsAt_v f i (0 : Int32)))), l)) rfl (fl_oks_ok ⟨True.intro, t2_kc2 hi, True.intro⟩) rfl (t2_upr) ?_
  refine fl_Tq.stp (pc' := 75) (lv' := [some (.inr (.inr (.inl (66, 198 + 4 * i)))), some (.inl (t2_pb (c2_voltsAt_v f i (0 : Int32)))), some (.inl (t2_abs_v ((t2_pb (c2_voltsAt_v f i (0 : Int32))) - (f (198 + 4 * i) 17))))]) (st' := [.inr (.inr (.inl (66, 198 + 4 * i)))]) (m' := (fl_row (c2_putReckoned_m f i (t2_chargeBy_v (t2_pb (c2_voltsAt_v f i (0 : Int32))) (f (198 + 4 * i) 0))) (198 + 4 * i) (upd (upd ((c2_putReckoned_m f i (t2_chargeBy_v (t2_pb (c2_voltsAt_v f i (0 : Int32))) (f (198 + 4 * i) 0))) (198 + 4 * i)) 15 (c2_reckonAtRest_j36_0 f i)) 17 (t2_pb (c2_voltsAt_v f i (0 : Int32)))), l)) rfl rfl (fl_bo rfl) rfl ?_
  refine fl_Tq.cI (c := (0 : Int32)) rfl (by decide +kernel) (fl_oks_ok ⟨t2_kc2 hi, True.intro⟩) ?_
  refine fl_Tq.pfV (k := 16) (m' := (fl_row (c2_putReckoned_m f i (t2_chargeBy_v (t2_pb (c2_voltsAt_v f i (0 : Int32))) (f (198 + 4 * i) 0))) (198 + 4 * i) (upd (upd (upd ((c2_putReckoned_m f i (t2_chargeBy_v (t2_pb (c2_voltsAt_v f i (0 : Int32))) (f (198 + 4 * i) 0))) (198 + 4 * i)) 15 (c2_reckonAtRest_j36_0 f i)) 17 (t2_pb (c2_voltsAt_v f i (0 : Int32)))) 16 (0 : Int32)), l)) rfl (fl_oks_ok ⟨True.intro, t2_kc2 hi, True.intro⟩) rfl (t2_upr) ?_
  exact fl_Tq.ret rfl rfl rfl k
noncomputable def c2_warningBits_j17_0 (f : t2_F) (i : Nat) (x y : Int32) : Int32 := if ((f 184 0) - y).toInt < (c2_voltsAt_v f i x).toInt then (1 : Int32) else (0 : Int32)
noncomputable def c2_warningBits_j39_0 (f : t2_F) (i : Nat) (x y : Int32) : Int32 := if (c2_voltsAt_v f i x).toInt < ((f 184 1) + y).toInt then (2 : Int32) else (0 : Int32)
noncomputable def c2_warningBits_j64_0 (f : t2_F) (i : Nat) (x y : Int32) : Int32 := if ((f 184 2) - y).toInt < (f (198 + 4 * i) 6).toInt then (4 : Int32) else (0 : Int32)
noncomputable def c2_warningBits_j89_0 (f : t2_F) (i : Nat) (x y : Int32) : Int32 := if (f (198 + 4 * i) 6).toInt < ((f 184 3) + y).toInt then (8 : Int32) else (0 : Int32)
noncomputable def c2_warningBits_v (f : t2_F) (i : Nat) (x y : Int32) : Int32 := (((c2_warningBits_j17_0 f i x y) ||| (c2_warningBits_j39_0 f i x y)) ||| (c2_warningBits_j64_0 f i x y)) ||| (c2_warningBits_j89_0 f i x y)
theorem c2_warningBits_q {L : Nat} {xs : Nat → Int32} {f : t2_F} {l : t2_L} {Q : Option fl_V → fl_M → Prop} {i : Nat} {x y : Int32} (hi : i < 16) (k : Q (some (.inl (c2_warningBits_v f i x y))) (f, l)) : fl_Tq (pw_P L xs) 17 0 (fl_args (am_mxl (pw_P L xs) 17) [.inr (.inr (.inl (66, 198 + 4 * i))), .inl x, .inr (.inr (.inl (51, 183))), .inl y]) [] (f, l) Q := by
  refine fl_Tq.stp (pc' := 1) (lv' := [some (.inr (.inr (.inl (66, 198 + 4 * i)))), some (.inl x), some (.inr (.inr (.inl (51, 183)))), some (.inl y), none, none]) (st' := [.inr (.inr (.inl (66, 198 + 4 * i)))]) (m' := (f, l)) rfl rfl (fl_bo rfl) rfl ?_
  refine fl_Tq.stp (pc' := 2) (lv' := [some (.inr (.inr (.inl (66, 198 + 4 * i)))), some (.inl x), some (.inr (.inr (.inl (51, 183)))), some (.inl y), none, none]) (st' := [.inl x, .inr (.inr (.inl (66, 198 + 4 * i)))]) (m' := (f, l)) rfl rfl (fl_oks_ok ⟨t2_kc2 hi, True.intro⟩) rfl ?_
  refine fl_Tq.cal rfl rfl (fl_oks_ok ⟨True.intro, t2_kc2 hi, True.intro⟩) rfl ?_
  refine c2_voltsAt_q hi ?_
  show fl_Tq _ 17 5 [some (.inr (.inr (.inl (66, 198 + 4 * i)))), some (.inl x), some (.inr (.inr (.inl (51, 183)))), some (.inl y), none, none] [.inl (c2_voltsAt_v f i x)] (f, l) _
  refine fl_Tq.stp (pc' := 7) (lv' := [some (.inr (.inr (.inl (66, 198 + 4 * i)))), some (.inl x), some (.inr (.inr (.inl (51, 183)))), some (.inl y), some (.inl (c2_voltsAt_v f i x)), none]) (st' := []) (m' := (f, l)) rfl rfl (fl_bo rfl) rfl ?_
  refine fl_Tq.stp (pc' := 9) (lv' := [some (.inr (.inr (.inl (66, 198 + 4 * i)))), some (.inl x), some (.inr (.inr (.inl (51, 183)))), some (.inl y), some (.inl (c2_voltsAt_v f i x)), none]) (st' := [.inl (c2_voltsAt_v f i x)]) (m' := (f, l)) rfl rfl (fl_bo rfl) rfl ?_
  refine fl_Tq.stp (pc' := 10) (lv' := [some (.inr (.inr (.inl (66, 198 + 4 * i)))), some (.inl x), some (.inr (.inr (.inl (51, 183)))), some (.inl y), some (.inl (c2_voltsAt_v f i x)), none]) (st' := [.inr (.inr (.inl (51, 183))), .inl (c2_voltsAt_v f i x)]) (m' := (f, l)) rfl rfl (fl_bo rfl) rfl ?_
  refine fl_Tq.stp (pc' := 13) (lv' := [some (.inr (.inr (.inl (66, 198 + 4 * i)))), some (.inl x), some (.inr (.inr (.inl (51, 183)))), some (.inl y), some (.inl (c2_voltsAt_v f i x)), none]) (st' := [.inr (.inr (.inl (52, 184))), .inl (c2_voltsAt_v f i x)]) (m' := (f, l)) rfl rfl (fl_bo rfl) rfl ?_
  refine fl_Tq.cI (c := (0 : Int32)) rfl (by decide +kernel) (fl_bo rfl) ?_
  refine fl_Tq.ldV (p := 184) (τ := 52) (n := 30) (z := (0, 0, 0)) (k := 0) (v := f 184 0) rfl (fl_bo rfl) rfl (by decide +kernel) (by decide) rfl ?_
  refine fl_Tq.stp (pc' := 16) (lv' := [some (.inr (.inr (.inl (66, 198 + 4 * i)))), some (.inl x), some (.inr (.inr (.inl (51, 183)))), some (.inl y), some (.inl (c2_voltsAt_v f i x)), none]) (st' := [.inl y, .inl (f 184 0), .inl (c2_voltsAt_v f i x)]) (m' := (f, l)) rfl rfl (fl_bo rfl) rfl ?_
  refine fl_Tq.stp (pc' := 17) (lv' := [some (.inr (.inr (.inl (66, 198 + 4 * i)))), some (.inl x), some (.inr (.inr (.inl (51, 183)))), some (.inl y), some (.inl (c2_voltsAt_v f i x)), none]) (st' := [.inl ((f 184 0) - y), .inl (c2_voltsAt_v f i x)]) (m' := (f, l)) rfl rfl (fl_bo rfl) rfl ?_
  have hj17 : fl_Tq (pw_P L xs) 17 25 [some (.inr (.inr (.inl (66, 198 + 4 * i)))), some (.inl x), some (.inr (.inr (.inl (51, 183)))), some (.inl y), some (.inl (c2_voltsAt_v f i x)), none] [.inl (c2_warningBits_j17_0 f i x y)] (f, l) Q → fl_Tq (pw_P L xs) 17 17 [some (.inr (.inr (.inl (66, 198 + 4 * i)))), some (.inl x), some (.inr (.inr (.inl (51, 183)))), some (.inl y), some (.inl (c2_voltsAt_v f i x)), none] [.inl ((f 184 0) - y), .inl (c2_voltsAt_v f i x)] (f, l) Q := by
    intro hJ
    by_cases h1 : ((f 184 0) - y).toInt < (c2_voltsAt_v f i x).toInt
    · refine fl_Tq.jf rfl (fl_bo rfl) (c2_le_f h1) rfl ?_
      refine fl_Tq.cI (c := (1 : Int32)) rfl (by decide +kernel) (fl_bo rfl) ?_
      refine fl_Tq.stp (pc' := 25) (lv' := [some (.inr (.inr (.inl (66, 198 + 4 * i)))), some (.inl x), some (.inr (.inr (.inl (51, 183)))), some (.inl y), some (.inl (c2_voltsAt_v f i x)), none]) (st' := [.inl (1 : Int32)]) (m' := (f, l)) rfl rfl (fl_bo rfl) rfl ?_
      have e0 : (c2_warningBits_j17_0 f i x y) = (1 : Int32) := by simp only [c2_warningBits_j17_0, if_pos h1]
      rw [e0] at hJ
      exact hJ
    · refine fl_Tq.jt rfl (fl_bo rfl) (c2_le_t h1) rfl ?_
      refine fl_Tq.cI (c := (0 : Int32)) rfl (by decide +kernel) (fl_bo rfl) ?_
      have e0 : (c2_warningBits_j17_0 f i x y) = (0 : Int32) := by simp only [c2_warningBits_j17_0, if_neg h1]
      rw [e0] at hJ
      exact hJ
  refine hj17 ?_
  show fl_Tq _ 17 25 [some (.inr (.inr (.inl (66, 198 + 4 * i)))), some (.inl x), some (.inr (.inr (.inl (51, 183)))), some (.inl y), some (.inl (c2_voltsAt_v f i x)), none] [.inl (c2_warningBits_j17_0 f i x y)] (f, l) _
  refine fl_Tq.stp (pc' := 27) (lv' := [some (.inr (.inr (.inl (66, 198 + 4 * i)))), some (.inl x), some (.inr (.inr (.inl (51, 183)))), some (.inl y), some (.inl (c2_voltsAt_v f i x)), some (.inl (c2_warningBits_j17_0 f i x y))]) (st' := []) (m' := (f, l)) rfl rfl (fl_bo rfl) rfl ?_
  refine fl_Tq.stp (pc' := 29) (lv' := [some (.inr (.inr (.inl (66, 198 + 4 * i)))), some (.inl x), some (.inr (.inr (.inl (51, 183)))), some (.inl y), some (.inl (c2_voltsAt_v f i x)), some (.inl (c2_warningBits_j17_0 f i x y))]) (st' := [.inl (c2_warningBits_j17_0 f i x y)]) (m' := (f, l)) rfl rfl (fl_bo rfl) rfl ?_
  refine fl_Tq.stp (pc' := 31) (lv' := [some (.inr (.inr (.inl (66, 198 + 4 * i)))), some (.inl x), some (.inr (.inr (.inl (51, 183)))), some (.inl y), some (.inl (c2_voltsAt_v f i x)), some (.inl (c2_warningBits_j17_0 f i x y))]) (st' := [.inl (c2_voltsAt_v f i x), .inl (c2_warningBits_j17_0 f i x y)]) (m' := (f, l)) rfl rfl (fl_bo rfl) rfl ?_
  refine fl_Tq.stp (pc' := 32) (lv' := [some (.inr (.inr (.inl (66, 198 + 4 * i)))), some (.inl x), some (.inr (.inr (.inl (51, 183)))), some (.inl y), some (.inl (c2_voltsAt_v f i x)), some (.inl (c2_warningBits_j17_0 f i x y))]) (st' := [.inr (.inr (.inl (51, 183))), .inl (c2_voltsAt_v f i x), .inl (c2_warningBits_j17_0 f i x y)]) (m' := (f, l)) rfl rfl (fl_bo rfl) rfl ?_
  refine fl_Tq.stp (pc' := 35) (lv' := [some (.inr (.inr (.inl (66, 198 + 4 * i)))), some (.inl x), some (.inr (.inr (.inl (51, 183)))), some (.inl y), some (.inl (c2_voltsAt_v f i x)), some (.inl (c2_warningBits_j17_0 f i x y))]) (st' := [.inr (.inr (.inl (52, 184))), .inl (c2_voltsAt_v f i x), .inl (c2_warningBits_j17_0 f i x y)]) (m' := (f, l)) rfl rfl (fl_bo rfl) rfl ?_
  refine fl_Tq.cI (c := (1 : Int32)) rfl (by decide +kernel) (fl_bo rfl) ?_
  refine fl_Tq.ldV (p := 184) (τ := 52) (n := 30) (z := (0, 0, 0)) (k := 1) (v := f 184 1) rfl (fl_bo rfl) rfl (by decide +kernel) (by decide) rfl ?_
  refine fl_Tq.stp (pc' := 38) (lv' := [some (.inr (.inr (.inl (66, 198 + 4 * i)))), some (.inl x), some (.inr (.inr (.inl (51, 183)))), some (.inl y), some (.inl (c2_voltsAt_v f i x)), some (.inl (c2_warningBits_j17_0 f i x y))]) (st' := [.inl y, .inl (f 184 1), .inl (c2_voltsAt_v f i x), .inl (c2_warningBits_j17_0 f i x y)]) (m' := (f, l)) rfl rfl (fl_bo rfl) rfl ?_
  refine fl_Tq.stp (pc' := 39) (lv' := [some (.inr (.inr (.inl (66, 198 + 4 * i)))), some (.inl x), some (.inr (.inr (.inl (51, 183)))), some (.inl y), some (.inl (c2_voltsAt_v f i x)), some (.inl (c2_warningBits_j17_0 f i x y))]) (st' := [.inl ((f 184 1) + y), .inl (c2_voltsAt_v f i x), .inl (c2_warningBits_j17_0 f i x y)]) (m' := (f, l)) rfl rfl (fl_bo rfl) rfl ?_
  have hj18 : fl_Tq (pw_P L xs) 17 47 [some (.inr (.inr (.inl (66, 198 + 4 * i)))), some (.inl x), some (.inr (.inr (.inl (51, 183)))), some (.inl y), some (.inl (c2_voltsAt_v f i x)), some (.inl (c2_warningBits_j17_0 f i x y))] [.inl (c2_warningBits_j39_0 f i x y), .inl (c2_warningBits_j17_0 f i x y)] (f, l) Q → fl_Tq (pw_P L xs) 17 39 [some (.inr (.inr (.inl (66, 198 + 4 * i)))), some (.inl x), some (.inr (.inr (.inl (51, 183)))), some (.inl y), some (.inl (c2_voltsAt_v f i x)), some (.inl (c2_warningBits_j17_0 f i x y))] [.inl ((f 184 1) + y), .inl (c2_voltsAt_v f i x), .inl (c2_warningBits_j17_0 f i x y)] (f, l) Q := by
    intro hJ
    by_cases h2 : (c2_voltsAt_v f i x).toInt < ((f 184 1) + y).toInt
    · refine fl_Tq.jf rfl (fl_bo rfl) (c2_ge_f h2) rfl ?_
      refine fl_Tq.cI (c := (2 : Int32)) rfl (by decide +kernel) (fl_bo rfl) ?_
      refine fl_Tq.stp (pc' := 47) (lv' := [some (.inr (.inr (.inl (66, 198 + 4 * i)))), some (.inl x), some (.inr (.inr (.inl (51, 183)))), some (.inl y), some (.inl (c2_voltsAt_v f i x)), some (.inl (c2_warningBits_j17_0 f i x y))]) (st' := [.inl (2 : Int32), .inl (c2_warningBits_j17_0 f i x y)]) (m' := (f, l)) rfl rfl (fl_bo rfl) rfl ?_
      have e0 : (c2_warningBits_j39_0 f i x y) = (2 : Int32) := by simp only [c2_warningBits_j39_0, if_pos h2]
      rw [e0] at hJ
      exact hJ
    · refine fl_Tq.jt rfl (fl_bo rfl) (c2_ge_t h2) rfl ?_
      refine fl_Tq.cI (c := (0 : Int32)) rfl (by decide +kernel) (fl_bo rfl) ?_
      have e0 : (c2_warningBits_j39_0 f i x y) = (0 : Int32) := by simp only [c2_warningBits_j39_0, if_neg h2]
      rw [e0] at hJ
      exact hJ
  refine hj18 ?_
  show fl_Tq _ 17 47 [some (.inr (.inr (.inl (66, 198 + 4 * i)))), some (.inl x), some (.inr (.inr (.inl (51, 183)))), some (.inl y), some (.inl (c2_voltsAt_v f i x)), some (.inl (c2_warningBits_j17_0 f i x y))] [.inl (c2_warningBits_j39_0 f i x y), .inl (c2_warningBits_j17_0 f i x y)] (f, l) _
  refine fl_Tq.stp (pc' := 48) (lv' := [some (.inr (.inr (.inl (66, 198 + 4 * i)))), some (.inl x), some (.inr (.inr (.inl (51, 183)))), some (.inl y), some (.inl (c2_voltsAt_v f i x)), some (.inl (c2_warningBits_j17_0 f i x y))]) (st' := [.inl ((c2_warningBits_j17_0 f i x y) ||| (c2_warningBits_j39_0 f i x y))]) (m' := (f, l)) rfl rfl (fl_bo rfl) rfl ?_
  refine fl_Tq.stp (pc' := 50) (lv' := [some (.inr (.inr (.inl (66, 198 + 4 * i)))), some (.inl x), some (.inr (.inr (.inl (51, 183)))), some (.inl y), some (.inl (c2_voltsAt_v f i x)), some (.inl ((c2_warningBits_j17_0 f i x y) ||| (c2_warningBits_j39_0 f i x y)))]) (st' := []) (m' := (f, l)) rfl rfl (fl_bo rfl) rfl ?_
  refine fl_Tq.stp (pc' := 52) (lv' := [some (.inr (.inr (.inl (66, 198 + 4 * i)))), some (.inl x), some (.inr (.inr (.inl (51, 183)))), some (.inl y), some (.inl (c2_voltsAt_v f i x)), some (.inl ((c2_warningBits_j17_0 f i x y) ||| (c2_warningBits_j39_0 f i x y)))]) (st' := [.inl ((c2_warningBits_j17_0 f i x y) ||| (c2_warningBits_j39_0 f i x y))]) (m' := (f, l)) rfl rfl (fl_bo rfl) rfl ?_
  refine fl_Tq.stp (pc' := 53) (lv' := [some (.inr (.inr (.inl (66, 198 + 4 * i)))), some (.inl x), some (.inr (.inr (.inl (51, 183)))), some (.inl y), some (.inl (c2_voltsAt_v f i x)), some (.inl ((c2_warningBits_j17_0 f i x y) ||| (c2_warningBits_j39_0 f i x y)))]) (st' := [.inr (.inr (.inl (66, 198 + 4 * i))), .inl ((c2_warningBits_j17_0 f i x y) ||| (c2_warningBits_j39_0 f i x y))]) (m' := (f, l)) rfl rfl (fl_bo rfl) rfl ?_
  refine fl_Tq.gfV (k := 6) (v := f (198 + 4 * i) 6) rfl (fl_oks_ok ⟨t2_kc2 hi, True.intro, True.intro⟩) rfl rfl ?_
  refine fl_Tq.stp (pc' := 57) (lv' := [some (.inr (.inr (.inl (66, 198 + 4 * i)))), some (.inl x), some (.inr (.inr (.inl (51, 183)))), some (.inl y), some (.inl (c2_voltsAt_v f i x)), some (.inl ((c2_warningBits_j17_0 f i x y) ||| (c2_warningBits_j39_0 f i x y)))]) (st' := [.inr (.inr (.inl (51, 183))), .inl (f (198 + 4 * i) 6), .inl ((c2_warningBits_j17_0 f i x y) ||| (c2_warningBits_j39_0 f i x y))]) (m' := (f, l)) rfl rfl (fl_bo rfl) rfl ?_
  refine fl_Tq.stp (pc' := 60) (lv' := [some (.inr (.inr (.inl (66, 198 + 4 * i)))), some (.inl x), some (.inr (.inr (.inl (51, 183)))), some (.inl y), some (.inl (c2_voltsAt_v f i x)), some (.inl ((c2_warningBits_j17_0 f i x y) ||| (c2_warningBits_j39_0 f i x y)))]) (st' := [.inr (.inr (.inl (52, 184))), .inl (f (198 + 4 * i) 6), .inl ((c2_warningBits_j17_0 f i x y) ||| (c2_warningBits_j39_0 f i x y))]) (m' := (f, l)) rfl rfl (fl_bo rfl) rfl ?_
  refine fl_Tq.cI (c := (2 : Int32)) rfl (by decide +kernel) (fl_bo rfl) ?_
  refine fl_Tq.ldV (p := 184) (τ := 52) (n := 30) (z := (0, 0, 0)) (k := 2) (v := f 184 2) rfl (fl_bo rfl) rfl (by decide +kernel) (by decide) rfl ?_
  refine fl_Tq.stp (pc' := 63) (lv' := [some (.inr (.inr (.inl (66, 198 + 4 * i)))), some (.inl x), some (.inr (.inr (.inl (51, 183)))), some (.inl y), some (.inl (c2_voltsAt_v f i x)), some (.inl ((c2_warningBits_j17_0 f i x y) ||| (c2_warningBits_j39_0 f i x y)))]) (st' := [.inl y, .inl (f 184 2), .inl (f (198 + 4 * i) 6), .inl ((c2_warningBits_j17_0 f i x y) ||| (c2_warningBits_j39_0 f i x y))]) (m' := (f, l)) rfl rfl (fl_bo rfl) rfl ?_
  refine fl_Tq.stp (pc' := 64) (lv' := [some (.inr (.inr (.inl (66, 198 + 4 * i)))), some (.inl x), some (.inr (.inr (.inl (51, 183)))), some (.inl y), some (.inl (c2_voltsAt_v f i x)), some (.inl ((c2_warningBits_j17_0 f i x y) ||| (c2_warningBits_j39_0 f i x y)))]) (st' := [.inl ((f 184 2) - y), .inl (f (198 + 4 * i) 6), .inl ((c2_warningBits_j17_0 f i x y) ||| (c2_warningBits_j39_0 f i x y))]) (m' := (f, l)) rfl rfl (fl_bo rfl) rfl ?_
  have hj19 : fl_Tq (pw_P L xs) 17 72 [some (.inr (.inr (.inl (66, 198 + 4 * i)))), some (.inl x), some (.inr (.inr (.inl (51, 183)))), some (.inl y), some (.inl (c2_voltsAt_v f i x)), some (.inl ((c2_warningBits_j17_0 f i x y) ||| (c2_warningBits_j39_0 f i x y)))] [.inl (c2_warningBits_j64_0 f i x y), .inl ((c2_warningBits_j17_0 f i x y) ||| (c2_warningBits_j39_0 f i x y))] (f, l) Q → fl_Tq (pw_P L xs) 17 64 [some (.inr (.inr (.inl (66, 198 + 4 * i)))), some (.inl x), some (.inr (.inr (.inl (51, 183)))), some (.inl y), some (.inl (c2_voltsAt_v f i x)), some (.inl ((c2_warningBits_j17_0 f i x y) ||| (c2_warningBits_j39_0 f i x y)))] [.inl ((f 184 2) - y), .inl (f (198 + 4 * i) 6), .inl ((c2_warningBits_j17_0 f i x y) ||| (c2_warningBits_j39_0 f i x y))] (f, l) Q := by
    intro hJ
    by_cases h3 : ((f 184 2) - y).toInt < (f (198 + 4 * i) 6).toInt
    · refine fl_Tq.jf rfl (fl_bo rfl) (c2_le_f h3) rfl ?_
      refine fl_Tq.cI (c := (4 : Int32)) rfl (by decide +kernel) (fl_bo rfl) ?_
      refine fl_Tq.stp (pc' := 72) (lv' := [some (.inr (.inr (.inl (66, 198 + 4 * i)))), some (.inl x), some (.inr (.inr (.inl (51, 183)))), some (.inl y), some (.inl (c2_voltsAt_v f i x)), some (.inl ((c2_warningBits_j17_0 f i x y) ||| (c2_warningBits_j39_0 f i x y)))]) (st' := [.inl (4 : Int32), .inl ((c2_warningBits_j17_0 f i x y) ||| (c2_warningBits_j39_0 f i x y))]) (m' := (f, l)) rfl rfl (fl_bo rfl) rfl ?_
      have e0 : (c2_warningBits_j64_0 f i x y) = (4 : Int32) := by simp only [c2_warningBits_j64_0, if_pos h3]
      rw [e0] at hJ
      exact hJ
    · refine fl_Tq.jt rfl (fl_bo rfl) (c2_le_t h3) rfl ?_
      refine fl_Tq.cI (c := (0 : Int32)) rfl (by decide +kernel) (fl_bo rfl) ?_
      have e0 : (c2_warningBits_j64_0 f i x y) = (0 : Int32) := by simp only [c2_warningBits_j64_0, if_neg h3]
      rw [e0] at hJ
      exact hJ
  refine hj19 ?_
  show fl_Tq _ 17 72 [some (.inr (.inr (.inl (66, 198 + 4 * i)))), some (.inl x), some (.inr (.inr (.inl (51, 183)))), some (.inl y), some (.inl (c2_voltsAt_v f i x)), some (.inl ((c2_warningBits_j17_0 f i x y) ||| (c2_warningBits_j39_0 f i x y)))] [.inl (c2_warningBits_j64_0 f i x y), .inl ((c2_warningBits_j17_0 f i x y) ||| (c2_warningBits_j39_0 f i x y))] (f, l) _
  refine fl_Tq.stp (pc' := 73) (lv' := [some (.inr (.inr (.inl (66, 198 + 4 * i)))), some (.inl x), some (.inr (.inr (.inl (51, 183)))), some (.inl y), some (.inl (c2_voltsAt_v f i x)), some (.inl ((c2_warningBits_j17_0 f i x y) ||| (c2_warningBits_j39_0 f i x y)))]) (st' := [.inl (((c2_warningBits_j17_0 f i x y) ||| (c2_warningBits_j39_0 f i x y)) ||| (c2_warningBits_j64_0 f i x y))]) (m' := (f, l)) rfl rfl (fl_bo rfl) rfl ?_
  refine fl_Tq.stp (pc' := 75) (lv' := [some (.inr (.inr (.inl (66, 198 + 4 * i)))), some (.inl x), some (.inr (.inr (.inl (51, 183)))), some (.inl y), some (.inl (c2_voltsAt_v f i x)), some (.inl (((c2_warningBits_j17_0 f i x y) ||| (c2_warningBits_j39_0 f i x y)) ||| (c2_warningBits_j64_0 f i x y)))]) (st' := []) (m' := (f, l)) rfl rfl (fl_bo rfl) rfl ?_
  refine fl_Tq.stp (pc' := 77) (lv' := [some (.inr (.inr (.inl (66, 198 + 4 * i)))), some (.inl x), some (.inr (.inr (.inl (51, 183)))), some (.inl y), some (.inl (c2_voltsAt_v f i x)), some (.inl (((c2_warningBits_j17_0 f i x y) ||| (c2_warningBits_j39_0 f i x y)) ||| (c2_warningBits_j64_0 f i x y)))]) (st' := [.inl (((c2_warningBits_j17_0 f i x y) ||| (c2_warningBits_j39_0 f i x y)) ||| (c2_warningBits_j64_0 f i x y))]) (m' := (f, l)) rfl rfl (fl_bo rfl) rfl ?_
  refine fl_Tq.stp (pc' := 78) (lv' := [some (.inr (.inr (.inl (66, 198 + 4 * i)))), some (.inl x), some (.inr (.inr (.inl (51, 183)))), some (.inl y), some (.inl (c2_voltsAt_v f i x)), some (.inl (((c2_warningBits_j17_0 f i x y) ||| (c2_warningBits_j39_0 f i x y)) ||| (c2_warningBits_j64_0 f i x y)))]) (st' := [.inr (.inr (.inl (66, 198 + 4 * i))), .inl (((c2_warningBits_j17_0 f i x y) ||| (c2_warningBits_j39_0 f i x y)) ||| (c2_warningBits_j64_0 f i x y))]) (m' := (f, l)) rfl rfl (fl_bo rfl) rfl ?_
  refine fl_Tq.gfV (k := 6) (v := f (198 + 4 * i) 6) rfl (fl_oks_ok ⟨t2_kc2 hi, True.intro, True.intro⟩) rfl rfl ?_
  refine fl_Tq.stp (pc' := 82) (lv' := [some (.inr (.inr (.inl (66, 198 + 4 * i)))), some (.inl x), some (.inr (.inr (.inl (51, 183)))), some (.inl y), some (.inl (c2_voltsAt_v f i x)), some (.inl (((c2_warningBits_j17_0 f i x y) ||| (c2_warningBits_j39_0 f i x y)) ||| (c2_warningBits_j64_0 f i x y)))]) (st' := [.inr (.inr (.inl (51, 183))), .inl (f (198 + 4 * i) 6), .inl (((c2_warningBits_j17_0 f i x y) ||| (c2_warningBits_j39_0 f i x y)) ||| (c2_warningBits_j64_0 f i x y))]) (m' := (f, l)) rfl rfl (fl_bo rfl) rfl ?_
  refine fl_Tq.stp (pc' := 85) (lv' := [some (.inr (.inr (.inl (66, 198 + 4 * i)))), some (.inl x), some (.inr (.inr (.inl (51, 183)))), some (.inl y), some (.inl (c2_voltsAt_v f i x)), some (.inl (((c2_warningBits_j17_0 f i x y) ||| (c2_warningBits_j39_0 f i x y)) ||| (c2_warningBits_j64_0 f i x y)))]) (st' := [.inr (.inr (.inl (52, 184))), .inl (f (198 + 4 * i) 6), .inl (((c2_warningBits_j17_0 f i x y) ||| (c2_warningBits_j39_0 f i x y)) ||| (c2_warningBits_j64_0 f i x y))]) (m' := (f, l)) rfl rfl (fl_bo rfl) rfl ?_
  refine fl_Tq.cI (c := (3 : Int32)) rfl (by decide +kernel) (fl_bo rfl) ?_
  refine fl_Tq.ldV (p := 184) (τ := 52) (n := 30) (z := (0, 0, 0)) (k := 3) (v := f 184 3) rfl (fl_bo rfl) rfl (by decide +kernel) (by decide) rfl ?_
  refine fl_Tq.stp (pc' := 88) (lv' := [some (.inr (.inr (.inl (66, 198 + 4 * i)))), some (.inl x), some (.inr (.inr (.inl (51, 183)))), some (.inl y), some (.inl (c2_voltsAt_v f i x)), some (.inl (((c2_warningBits_j17_0 f i x y) ||| (c2_warningBits_j39_0 f i x y)) ||| (c2_warningBits_j64_0 f i x y)))]) (st' := [.inl y, .inl (f 184 3), .inl (f (198 + 4 * i) 6), .inl (((c2_warningBits_j17_0 f i x y) ||| (c2_warningBits_j39_0 f i x y)) ||| (c2_warningBits_j64_0 f i x y))]) (m' := (f, l)) rfl rfl (fl_bo rfl) rfl ?_
  refine fl_Tq.stp (pc' := 89) (lv' := [some (.inr (.inr (.inl (66, 198 + 4 * i)))), some (.inl x), some (.inr (.inr (.inl (51, 183)))), some (.inl y), some (.inl (c2_voltsAt_v f i x)), some (.inl (((c2_warningBits_j17_0 f i x y) ||| (c2_warningBits_j39_0 f i x y)) ||| (c2_warningBits_j64_0 f i x y)))]) (st' := [.inl ((f 184 3) + y), .inl (f (198 + 4 * i) 6), .inl (((c2_warningBits_j17_0 f i x y) ||| (c2_warningBits_j39_0 f i x y)) ||| (c2_warningBits_j64_0 f i x y))]) (m' := (f, l)) rfl rfl (fl_bo rfl) rfl ?_
  have hj20 : fl_Tq (pw_P L xs) 17 98 [some (.inr (.inr (.inl (66, 198 + 4 * i)))), some (.inl x), some (.inr (.inr (.inl (51, 183)))), some (.inl y), some (.inl (c2_voltsAt_v f i x)), some (.inl (((c2_warningBits_j17_0 f i x y) ||| (c2_warningBits_j39_0 f i x y)) ||| (c2_warningBits_j64_0 f i x y)))] [.inl (c2_warningBits_j89_0 f i x y), .inl (((c2_warningBits_j17_0 f i x y) ||| (c2_warningBits_j39_0 f i x y)) ||| (c2_warningBits_j64_0 f i x y))] (f, l) Q → fl_Tq (pw_P L xs) 17 89 [some (.inr (.inr (.inl (66, 198 + 4 * i)))), some (.inl x), some (.inr (.inr (.inl (51, 183)))), some (.inl y), some (.inl (c2_voltsAt_v f i x)), some (.inl (((c2_warningBits_j17_0 f i x y) ||| (c2_warningBits_j39_0 f i x y)) ||| (c2_warningBits_j64_0 f i x y)))] [.inl ((f 184 3) + y), .inl (f (198 + 4 * i) 6), .inl (((c2_warningBits_j17_0 f i x y) ||| (c2_warningBits_j39_0 f i x y)) ||| (c2_warningBits_j64_0 f i x y))] (f, l) Q := by
    intro hJ
    by_cases h4 : (f (198 + 4 * i) 6).toInt < ((f 184 3) + y).toInt
    · refine fl_Tq.jf rfl (fl_bo rfl) (c2_ge_f h4) rfl ?_
      refine fl_Tq.cB (c := (8 : Int32)) rfl (by decide +kernel) (fl_bo rfl) ?_
      refine fl_Tq.stp (pc' := 98) (lv' := [some (.inr (.inr (.inl (66, 198 + 4 * i)))), some (.inl x), some (.inr (.inr (.inl (51, 183)))), some (.inl y), some (.inl (c2_voltsAt_v f i x)), some (.inl (((c2_warningBits_j17_0 f i x y) ||| (c2_warningBits_j39_0 f i x y)) ||| (c2_warningBits_j64_0 f i x y)))]) (st' := [.inl (8 : Int32), .inl (((c2_warningBits_j17_0 f i x y) ||| (c2_warningBits_j39_0 f i x y)) ||| (c2_warningBits_j64_0 f i x y))]) (m' := (f, l)) rfl rfl (fl_bo rfl) rfl ?_
      have e0 : (c2_warningBits_j89_0 f i x y) = (8 : Int32) := by simp only [c2_warningBits_j89_0, if_pos h4]
      rw [e0] at hJ
      exact hJ
    · refine fl_Tq.jt rfl (fl_bo rfl) (c2_ge_t h4) rfl ?_
      refine fl_Tq.cI (c := (0 : Int32)) rfl (by decide +kernel) (fl_bo rfl) ?_
      have e0 : (c2_warningBits_j89_0 f i x y) = (0 : Int32) := by simp only [c2_warningBits_j89_0, if_neg h4]
      rw [e0] at hJ
      exact hJ
  refine hj20 ?_
  show fl_Tq _ 17 98 [some (.inr (.inr (.inl (66, 198 + 4 * i)))), some (.inl x), some (.inr (.inr (.inl (51, 183)))), some (.inl y), some (.inl (c2_voltsAt_v f i x)), some (.inl (((c2_warningBits_j17_0 f i x y) ||| (c2_warningBits_j39_0 f i x y)) ||| (c2_warningBits_j64_0 f i x y)))] [.inl (c2_warningBits_j89_0 f i x y), .inl (((c2_warningBits_j17_0 f i x y) ||| (c2_warningBits_j39_0 f i x y)) ||| (c2_warningBits_j64_0 f i x y))] (f, l) _
  refine fl_Tq.stp (pc' := 99) (lv' := [some (.inr (.inr (.inl (66, 198 + 4 * i)))), some (.inl x), some (.inr (.inr (.inl (51, 183)))), some (.inl y), some (.inl (c2_voltsAt_v f i x)), some (.inl (((c2_warningBits_j17_0 f i x y) ||| (c2_warningBits_j39_0 f i x y)) ||| (c2_warningBits_j64_0 f i x y)))]) (st' := [.inl ((((c2_warningBits_j17_0 f i x y) ||| (c2_warningBits_j39_0 f i x y)) ||| (c2_warningBits_j64_0 f i x y)) ||| (c2_warningBits_j89_0 f i x y))]) (m' := (f, l)) rfl rfl (fl_bo rfl) rfl ?_
  refine fl_Tq.stp (pc' := 101) (lv' := [some (.inr (.inr (.inl (66, 198 + 4 * i)))), some (.inl x), some (.inr (.inr (.inl (51, 183)))), some (.inl y), some (.inl (c2_voltsAt_v f i x)), some (.inl ((((c2_warningBits_j17_0 f i x y) ||| (c2_warningBits_j39_0 f i x y)) ||| (c2_warningBits_j64_0 f i x y)) ||| (c2_warningBits_j89_0 f i x y)))]) (st' := []) (m' := (f, l)) rfl rfl (fl_bo rfl) rfl ?_
  refine fl_Tq.stp (pc' := 103) (lv' := [some (.inr (.inr (.inl (66, 198 + 4 * i)))), some (.inl x), some (.inr (.inr (.inl (51, 183)))), some (.inl y), some (.inl (c2_voltsAt_v f i x)), some (.inl ((((c2_warningBits_j17_0 f i x y) ||| (c2_warningBits_j39_0 f i x y)) ||| (c2_warningBits_j64_0 f i x y)) ||| (c2_warningBits_j89_0 f i x y)))]) (st' := [.inl ((((c2_warningBits_j17_0 f i x y) ||| (c2_warningBits_j39_0 f i x y)) ||| (c2_warningBits_j64_0 f i x y)) ||| (c2_warningBits_j89_0 f i x y))]) (m' := (f, l)) rfl rfl (fl_bo rfl) rfl ?_
  exact fl_Tq.ret rfl rfl rfl k
noncomputable def c2_tellWhat_j147_0 (f : t2_F) (i : Nat) (x y : Int32) : Int32 := if 0 < (f (198 + 4 * i) 1).toInt then ((f (198 + 4 * i) 0) * (1000 : Int32)) / (f (198 + 4 * i) 1) else (-1 : Int32)
noncomputable def c2_tellWhat_j172_0 (f : t2_F) (i : Nat) (x y : Int32) : Int32 := if (f (198 + 4 * i) 10).toInt = 0 then (-1 : Int32) else f (198 + 4 * i) 12
noncomputable def c2_tellWhat_j188_0 (f : t2_F) (i : Nat) (x y : Int32) : Int32 := if (f (198 + 4 * i) 10).toInt = 0 then (-1 : Int32) else f (198 + 4 * i) 13
noncomputable def c2_tellWhat_v (f : t2_F) (i : Nat) (x y : Int32) : Int32 := if x.toInt = 0 then f (198 + 4 * i) 0 else (if x.toInt = 1 then f (198 + 4 * i) 2 else (if x.toInt = 2 then f (198 + 4 * i) 5 else (if x.toInt = 3 then f (198 + 4 * i) 6 else (if x.toInt = 4 then f (198 + 4 * i) 3 else (if x.toInt = 5 then f (198 + 4 * i) 4 else (if x.toInt = 6 then c2_voltsAt_v f i y else (if x.toInt = 7 then c2_reckonedPart_v f i else (if x.toInt = 8 then f (198 + 4 * i) 8 else (if x.toInt = 9 then f (198 + 4 * i) 9 else (if x.toInt = 10 then c2_tellWhat_j147_0 f i x y else (if x.toInt = 11 then c2_tellWhat_j172_0 f i x y else (if x.toInt = 12 then c2_tellWhat_j188_0 f i x y else (if x.toInt = 13 then f (198 + 4 * i) 7 else (if x.toInt = 14 then f (199 + 4 * i) 2 else (if x.toInt = 15 then f (198 + 4 * i) 14 else (if x.toInt = 16 then f (198 + 4 * i) 15 else (if x.toInt = 17 then f (198 + 4 * i) 16 else (if x.toInt = 18 then f (198 + 4 * i) 18 else (-1000000000 : Int32)))))))))))))))))))
theorem c2_tellWhat_q {L : Nat} {xs : Nat → Int32} {f : t2_F} {l : t2_L} {Q : Option fl_V → fl_M → Prop} {i : Nat} {x y : Int32} (hi : i < 16) (k : Q (some (.inl (c2_tellWhat_v f i x y))) (f, l)) : fl_Tq (pw_P L xs) 18 0 (fl_args (am_mxl (pw_P L xs) 18) [.inr (.inr (.inl (66, 198 + 4 * i))), .inl x, .inl y]) [] (f, l) Q := by
  refine fl_Tq.stp (pc' := 1) (lv' := [some (.inr (.inr (.inl (66, 198 + 4 * i)))), some (.inl x), some (.inl y)]) (st' := [.inl x]) (m' := (f, l)) rfl rfl (fl_bo rfl) rfl ?_
  by_cases h1 : x.toInt = 0
  · refine fl_Tq.swI (k := 0) rfl (fl_bo rfl) h1 rfl rfl ?_
    refine fl_Tq.stp (pc' := 93) (lv' := [some (.inr (.inr (.inl (66, 198 + 4 * i)))), some (.inl x), some (.inl y)]) (st' := [.inr (.inr (.inl (66, 198 + 4 * i)))]) (m' := (f, l)) rfl rfl (fl_bo rfl) rfl ?_
    refine fl_Tq.gfV (k := 0) (v := f (198 + 4 * i) 0) rfl (fl_oks_ok ⟨t2_kc2 hi, True.intro⟩) rfl rfl ?_
    refine fl_Tq.ret rfl rfl rfl ?_
    unfold c2_tellWhat_v at k
    simp only [if_pos h1] at k
    exact k
  by_cases h2 : x.toInt = 1
  · refine fl_Tq.swI (k := 1) rfl (fl_bo rfl) h2 rfl rfl ?_
    refine fl_Tq.stp (pc' := 98) (lv' := [some (.inr (.inr (.inl (66, 198 + 4 * i)))), some (.inl x), some (.inl y)]) (st' := [.inr (.inr (.inl (66, 198 + 4 * i)))]) (m' := (f, l)) rfl rfl (fl_bo rfl) rfl ?_
    refine fl_Tq.gfV (k := 2) (v := f (198 + 4 * i) 2) rfl (fl_oks_ok ⟨t2_kc2 hi, True.intro⟩) rfl rfl ?_
    refine fl_Tq.ret rfl rfl rfl ?_
    unfold c2_tellWhat_v at k
    simp only [if_neg h1, if_pos h2] at k
    exact k
  by_cases h3 : x.toInt = 2
  · refine fl_Tq.swI (k := 2) rfl (fl_bo rfl) h3 rfl rfl ?_
    refine fl_Tq.stp (pc' := 103) (lv' := [some (.inr (.inr (.inl (66, 198 + 4 * i)))), some (.inl x), some (.inl y)]) (st' := [.inr (.inr (.inl (66, 198 + 4 * i)))]) (m' := (f, l)) rfl rfl (fl_bo rfl) rfl ?_
    refine fl_Tq.gfV (k := 5) (v := f (198 + 4 * i) 5) rfl (fl_oks_ok ⟨t2_kc2 hi, True.intro⟩) rfl rfl ?_
    refine fl_Tq.ret rfl rfl rfl ?_
    unfold c2_tellWhat_v at k
    simp only [if_neg h1, if_neg h2, if_pos h3] at k
    exact k
  by_cases h4 : x.toInt = 3
  · refine fl_Tq.swI (k := 3) rfl (fl_bo rfl) h4 rfl rfl ?_
    refine fl_Tq.stp (pc' := 108) (lv' := [some (.inr (.inr (.inl (66, 198 + 4 * i)))), some (.inl x), some (.inl y)]) (st' := [.inr (.inr (.inl (66, 198 + 4 * i)))]) (m' := (f, l)) rfl rfl (fl_bo rfl) rfl ?_
    refine fl_Tq.gfV (k := 6) (v := f (198 + 4 * i) 6) rfl (fl_oks_ok ⟨t2_kc2 hi, True.intro⟩) rfl rfl ?_
    refine fl_Tq.ret rfl rfl rfl ?_
    unfold c2_tellWhat_v at k
    simp only [if_neg h1, if_neg h2, if_neg h3, if_pos h4] at k
    exact k
  by_cases h5 : x.toInt = 4
  · refine fl_Tq.swI (k := 4) rfl (fl_bo rfl) h5 rfl rfl ?_
    refine fl_Tq.stp (pc' := 113) (lv' := [some (.inr (.inr (.inl (66, 198 + 4 * i)))), some (.inl x), some (.inl y)]) (st' := [.inr (.inr (.inl (66, 198 + 4 * i)))]) (m' := (f, l)) rfl rfl (fl_bo rfl) rfl ?_
    refine fl_Tq.gfV (k := 3) (v := f (198 + 4 * i) 3) rfl (fl_oks_ok ⟨t2_kc2 hi, True.intro⟩) rfl rfl ?_
    refine fl_Tq.ret rfl rfl rfl ?_
    unfold c2_tellWhat_v at k
    simp only [if_neg h1, if_neg h2, if_neg h3, if_neg h4, if_pos h5] at k
    exact k
  by_cases h6 : x.toInt = 5
  · refine fl_Tq.swI (k := 5) rfl (fl_bo rfl) h6 rfl rfl ?_
    refine fl_Tq.stp (pc' := 118) (lv' := [some (.inr (.inr (.inl (66, 198 + 4 * i)))), some (.inl x), some (.inl y)]) (st' := [.inr (.inr (.inl (66, 198 + 4 * i)))]) (m' := (f, l)) rfl rfl (fl_bo rfl) rfl ?_
    refine fl_Tq.gfV (k := 4) (v := f (198 + 4 * i) 4) rfl (fl_oks_ok ⟨t2_kc2 hi, True.intro⟩) rfl rfl ?_
    refine fl_Tq.ret rfl rfl rfl ?_
    unfold c2_tellWhat_v at k
    simp only [if_neg h1, if_neg h2, if_neg h3, if_neg h4, if_neg h5, if_pos h6] at k
    exact k
  by_cases h7 : x.toInt = 6
  · refine fl_Tq.swI (k := 6) rfl (fl_bo rfl) h7 rfl rfl ?_
    refine fl_Tq.stp (pc' := 123) (lv' := [some (.inr (.inr (.inl (66, 198 + 4 * i)))), some (.inl x), some (.inl y)]) (st' := [.inr (.inr (.inl (66, 198 + 4 * i)))]) (m' := (f, l)) rfl rfl (fl_bo rfl) rfl ?_
    refine fl_Tq.stp (pc' := 124) (lv' := [some (.inr (.inr (.inl (66, 198 + 4 * i)))), some (.inl x), some (.inl y)]) (st' := [.inl y, .inr (.inr (.inl (66, 198 + 4 * i)))]) (m' := (f, l)) rfl rfl (fl_oks_ok ⟨t2_kc2 hi, True.intro⟩) rfl ?_
    refine fl_Tq.cal rfl rfl (fl_oks_ok ⟨True.intro, t2_kc2 hi, True.intro⟩) rfl ?_
    refine c2_voltsAt_q hi ?_
    show fl_Tq _ 18 127 [some (.inr (.inr (.inl (66, 198 + 4 * i)))), some (.inl x), some (.inl y)] [.inl (c2_voltsAt_v f i y)] (f, l) _
    refine fl_Tq.ret rfl rfl rfl ?_
    unfold c2_tellWhat_v at k
    simp only [if_neg h1, if_neg h2, if_neg h3, if_neg h4, if_neg h5, if_neg h6, if_pos h7] at k
    exact k
  by_cases h8 : x.toInt = 7
  · refine fl_Tq.swI (k := 7) rfl (fl_bo rfl) h8 rfl rfl ?_
    refine fl_Tq.stp (pc' := 129) (lv' := [some (.inr (.inr (.inl (66, 198 + 4 * i)))), some (.inl x), some (.inl y)]) (st' := [.inr (.inr (.inl (66, 198 + 4 * i)))]) (m' := (f, l)) rfl rfl (fl_bo rfl) rfl ?_
    refine fl_Tq.cal rfl rfl (fl_oks_ok ⟨t2_kc2 hi, True.intro⟩) rfl ?_
    refine c2_reckonedPart_q hi ?_
    show fl_Tq _ 18 132 [some (.inr (.inr (.inl (66, 198 + 4 * i)))), some (.inl x), some (.inl y)] [.inl (c2_reckonedPart_v f i)] (f, l) _
    refine fl_Tq.ret rfl rfl rfl ?_
    unfold c2_tellWhat_v at k
    simp only [if_neg h1, if_neg h2, if_neg h3, if_neg h4, if_neg h5, if_neg h6, if_neg h7, if_pos h8] at k
    exact k
  by_cases h9 : x.toInt = 8
  · refine fl_Tq.swI (k := 8) rfl (fl_bo rfl) h9 rfl rfl ?_
    refine fl_Tq.stp (pc' := 134) (lv' := [some (.inr (.inr (.inl (66, 198 + 4 * i)))), some (.inl x), some (.inl y)]) (st' := [.inr (.inr (.inl (66, 198 + 4 * i)))]) (m' := (f, l)) rfl rfl (fl_bo rfl) rfl ?_
    refine fl_Tq.gfV (k := 8) (v := f (198 + 4 * i) 8) rfl (fl_oks_ok ⟨t2_kc2 hi, True.intro⟩) rfl rfl ?_
    refine fl_Tq.ret rfl rfl rfl ?_
    unfold c2_tellWhat_v at k
    simp only [if_neg h1, if_neg h2, if_neg h3, if_neg h4, if_neg h5, if_neg h6, if_neg h7, if_neg h8, if_pos h9] at k
    exact k
  by_cases h10 : x.toInt = 9
  · refine fl_Tq.swI (k := 9) rfl (fl_bo rfl) h10 rfl rfl ?_
    refine fl_Tq.stp (pc' := 139) (lv' := [some (.inr (.inr (.inl (66, 198 + 4 * i)))), some (.inl x), some (.inl y)]) (st' := [.inr (.inr (.inl (66, 198 + 4 * i)))]) (m' := (f, l)) rfl rfl (fl_bo rfl) rfl ?_
    refine fl_Tq.gfV (k := 9) (v := f (198 + 4 * i) 9) rfl (fl_oks_ok ⟨t2_kc2 hi, True.intro⟩) rfl rfl ?_
    refine fl_Tq.ret rfl rfl rfl ?_
    unfold c2_tellWhat_v at k
    simp only [if_neg h1, if_neg h2, if_neg h3, if_neg h4, if_neg h5, if_neg h6, if_neg h7, if_neg h8, if_neg h9, if_pos h10] at k
    exact k
  by_cases h11 : x.toInt = 10
  · refine fl_Tq.swI (k := 10) rfl (fl_bo rfl) h11 rfl rfl ?_
    refine fl_Tq.stp (pc' := 144) (lv' := [some (.inr (.inr (.inl (66, 198 + 4 * i)))), some (.inl x), some (.inl y)]) (st' := [.inr (.inr (.inl (66, 198 + 4 * i)))]) (m' := (f, l)) rfl rfl (fl_bo rfl) rfl ?_
    refine fl_Tq.gfV (k := 1) (v := f (198 + 4 * i) 1) rfl (fl_oks_ok ⟨t2_kc2 hi, True.intro⟩) rfl rfl ?_
    have hj21 : fl_Tq (pw_P L xs) 18 167 [some (.inr (.inr (.inl (66, 198 + 4 * i)))), some (.inl x), some (.inl y)] [.inl (c2_tellWhat_j147_0 f i x y)] (f, l) Q → fl_Tq (pw_P L xs) 18 147 [some (.inr (.inr (.inl (66, 198 + 4 * i)))), some (.inl x), some (.inl y)] [.inl (f (198 + 4 * i) 1)] (f, l) Q := by
      intro hJ
      by_cases h12 : 0 < (f (198 + 4 * i) 1).toInt
      · refine fl_Tq.zt rfl (fl_bo rfl) (c1_gt_t h12) rfl ?_
        refine fl_Tq.stp (pc' := 155) (lv' := [some (.inr (.inr (.inl (66, 198 + 4 * i)))), some (.inl x), some (.inl y)]) (st' := [.inr (.inr (.inl (66, 198 + 4 * i)))]) (m' := (f, l)) rfl rfl (fl_bo rfl) rfl ?_
        refine fl_Tq.gfV (k := 0) (v := f (198 + 4 * i) 0) rfl (fl_oks_ok ⟨t2_kc2 hi, True.intro⟩) rfl rfl ?_
        refine fl_Tq.cS (c := (1000 : Int32)) rfl (by decide +kernel) (fl_bo rfl) ?_
        refine fl_Tq.stp (pc' := 162) (lv' := [some (.inr (.inr (.inl (66, 198 + 4 * i)))), some (.inl x), some (.inl y)]) (st' := [.inl ((f (198 + 4 * i) 0) * (1000 : Int32))]) (m' := (f, l)) rfl rfl (fl_bo rfl) rfl ?_
        refine fl_Tq.stp (pc' := 163) (lv' := [some (.inr (.inr (.inl (66, 198 + 4 * i)))), some (.inl x), some (.inl y)]) (st' := [.inr (.inr (.inl (66, 198 + 4 * i))), .inl ((f (198 + 4 * i) 0) * (1000 : Int32))]) (m' := (f, l)) rfl rfl (fl_bo rfl) rfl ?_
        refine fl_Tq.gfV (k := 1) (v := f (198 + 4 * i) 1) rfl (fl_oks_ok ⟨t2_kc2 hi, True.intro, True.intro⟩) rfl rfl ?_
        refine fl_Tq.dv rfl (fl_bo rfl) (t2_nzp h12) ?_
        have e0 : (c2_tellWhat_j147_0 f i x y) = ((f (198 + 4 * i) 0) * (1000 : Int32)) / (f (198 + 4 * i) 1) := by simp only [c2_tellWhat_j147_0, if_pos h12]
        rw [e0] at hJ
        exact hJ
      · refine fl_Tq.zf rfl (fl_bo rfl) (c1_gt_f h12) rfl ?_
        refine fl_Tq.cI (c := (-1 : Int32)) rfl (by decide +kernel) (fl_bo rfl) ?_
        refine fl_Tq.stp (pc' := 167) (lv' := [some (.inr (.inr (.inl (66, 198 + 4 * i)))), some (.inl x), some (.inl y)]) (st' := [.inl (-1 : Int32)]) (m' := (f, l)) rfl rfl (fl_bo rfl) rfl ?_
        have e0 : (c2_tellWhat_j147_0 f i x y) = (-1 : Int32) := by simp only [c2_tellWhat_j147_0, if_neg h12]
        rw [e0] at hJ
        exact hJ
    refine hj21 ?_
    show fl_Tq _ 18 167 [some (.inr (.inr (.inl (66, 198 + 4 * i)))), some (.inl x), some (.inl y)] [.inl (c2_tellWhat_j147_0 f i x y)] (f, l) _
    refine fl_Tq.ret rfl rfl rfl ?_
    unfold c2_tellWhat_v at k
    simp only [if_neg h1, if_neg h2, if_neg h3, if_neg h4, if_neg h5, if_neg h6, if_neg h7, if_neg h8, if_neg h9, if_neg h10, if_pos h11] at k
    exact k
  by_cases h13 : x.toInt = 11
  · refine fl_Tq.swI (k := 11) rfl (fl_bo rfl) h13 rfl rfl ?_
    refine fl_Tq.stp (pc' := 169) (lv' := [some (.inr (.inr (.inl (66, 198 + 4 * i)))), some (.inl x), some (.inl y)]) (st' := [.inr (.inr (.inl (66, 198 + 4 * i)))]) (m' := (f, l)) rfl rfl (fl_bo rfl) rfl ?_
    refine fl_Tq.gfV (k := 10) (v := f (198 + 4 * i) 10) rfl (fl_oks_ok ⟨t2_kc2 hi, True.intro⟩) rfl rfl ?_
    have hj22 : fl_Tq (pw_P L xs) 18 183 [some (.inr (.inr (.inl (66, 198 + 4 * i)))), some (.inl x), some (.inl y)] [.inl (c2_tellWhat_j172_0 f i x y)] (f, l) Q → fl_Tq (pw_P L xs) 18 172 [some (.inr (.inr (.inl (66, 198 + 4 * i)))), some (.inl x), some (.inl y)] [.inl (f (198 + 4 * i) 10)] (f, l) Q := by
      intro hJ
      by_cases h14 : (f (198 + 4 * i) 10).toInt = 0
      · refine fl_Tq.zt rfl (fl_bo rfl) (c1_eq_t h14) rfl ?_
        refine fl_Tq.cI (c := (-1 : Int32)) rfl (by decide +kernel) (fl_bo rfl) ?_
        have e0 : (c2_tellWhat_j172_0 f i x y) = (-1 : Int32) := by simp only [c2_tellWhat_j172_0, if_pos h14]
        rw [e0] at hJ
        exact hJ
      · refine fl_Tq.zf rfl (fl_bo rfl) (c1_eq_f h14) rfl ?_
        refine fl_Tq.stp (pc' := 176) (lv' := [some (.inr (.inr (.inl (66, 198 + 4 * i)))), some (.inl x), some (.inl y)]) (st' := [.inr (.inr (.inl (66, 198 + 4 * i)))]) (m' := (f, l)) rfl rfl (fl_bo rfl) rfl ?_
        refine fl_Tq.gfV (k := 12) (v := f (198 + 4 * i) 12) rfl (fl_oks_ok ⟨t2_kc2 hi, True.intro⟩) rfl rfl ?_
        refine fl_Tq.stp (pc' := 183) (lv' := [some (.inr (.inr (.inl (66, 198 + 4 * i)))), some (.inl x), some (.inl y)]) (st' := [.inl (f (198 + 4 * i) 12)]) (m' := (f, l)) rfl rfl (fl_bo rfl) rfl ?_
        have e0 : (c2_tellWhat_j172_0 f i x y) = f (198 + 4 * i) 12 := by simp only [c2_tellWhat_j172_0, if_neg h14]
        rw [e0] at hJ
        exact hJ
    refine hj22 ?_
    show fl_Tq _ 18 183 [some (.inr (.inr (.inl (66, 198 + 4 * i)))), some (.inl x), some (.inl y)] [.inl (c2_tellWhat_j172_0 f i x y)] (f, l) _
    refine fl_Tq.ret rfl rfl rfl ?_
    unfold c2_tellWhat_v at k
    simp only [if_neg h1, if_neg h2, if_neg h3, if_neg h4, if_neg h5, if_neg h6, if_neg h7, if_neg h8, if_neg h9, if_neg h10, if_neg h11, if_pos h13] at k
    exact k
  by_cases h15 : x.toInt = 12
  · refine fl_Tq.swI (k := 12) rfl (fl_bo rfl) h15 rfl rfl ?_
    refine fl_Tq.stp (pc' := 185) (lv' := [some (.inr (.inr (.inl (66, 198 + 4 * i)))), some (.inl x), some (.inl y)]) (st' := [.inr (.inr (.inl (66, 198 + 4 * i)))]) (m' := (f, l)) rfl rfl (fl_bo rfl) rfl ?_
    refine fl_Tq.gfV (k := 10) (v := f (198 + 4 * i) 10) rfl (fl_oks_ok ⟨t2_kc2 hi, True.intro⟩) rfl rfl ?_
    have hj23 : fl_Tq (pw_P L xs) 18 199 [some (.inr (.inr (.inl (66, 198 + 4 * i)))), some (.inl x), some (.inl y)] [.inl (c2_tellWhat_j188_0 f i x y)] (f, l) Q → fl_Tq (pw_P L xs) 18 188 [some (.inr (.inr (.inl (66, 198 + 4 * i)))), some (.inl x), some (.inl y)] [.inl (f (198 + 4 * i) 10)] (f, l) Q := by
      intro hJ
      by_cases h16 : (f (198 + 4 * i) 10).toInt = 0
      · refine fl_Tq.zt rfl (fl_bo rfl) (c1_eq_t h16) rfl ?_
        refine fl_Tq.cI (c := (-1 : Int32)) rfl (by decide +kernel) (fl_bo rfl) ?_
        have e0 : (c2_tellWhat_j188_0 f i x y) = (-1 : Int32) := by simp only [c2_tellWhat_j188_0, if_pos h16]
        rw [e0] at hJ
        exact hJ
      · refine fl_Tq.zf rfl (fl_bo rfl) (c1_eq_f h16) rfl ?_
        refine fl_Tq.stp (pc' := 192) (lv' := [some (.inr (.inr (.inl (66, 198 + 4 * i)))), some (.inl x), some (.inl y)]) (st' := [.inr (.inr (.inl (66, 198 + 4 * i)))]) (m' := (f, l)) rfl rfl (fl_bo rfl) rfl ?_
        refine fl_Tq.gfV (k := 13) (v := f (198 + 4 * i) 13) rfl (fl_oks_ok ⟨t2_kc2 hi, True.intro⟩) rfl rfl ?_
        refine fl_Tq.stp (pc' := 199) (lv' := [some (.inr (.inr (.inl (66, 198 + 4 * i)))), some (.inl x), some (.inl y)]) (st' := [.inl (f (198 + 4 * i) 13)]) (m' := (f, l)) rfl rfl (fl_bo rfl) rfl ?_
        have e0 : (c2_tellWhat_j188_0 f i x y) = f (198 + 4 * i) 13 := by simp only [c2_tellWhat_j188_0, if_neg h16]
        rw [e0] at hJ
        exact hJ
    refine hj23 ?_
    show fl_Tq _ 18 199 [some (.inr (.inr (.inl (66, 198 + 4 * i)))), some (.inl x), some (.inl y)] [.inl (c2_tellWhat_j188_0 f i x y)] (f, l) _
    refine fl_Tq.ret rfl rfl rfl ?_
    unfold c2_tellWhat_v at k
    simp only [if_neg h1, if_neg h2, if_neg h3, if_neg h4, if_neg h5, if_neg h6, if_neg h7, if_neg h8, if_neg h9, if_neg h10, if_neg h11, if_neg h13, if_pos h15] at k
    exact k
  by_cases h17 : x.toInt = 13
  · refine fl_Tq.swI (k := 13) rfl (fl_bo rfl) h17 rfl rfl ?_
    refine fl_Tq.stp (pc' := 201) (lv' := [some (.inr (.inr (.inl (66, 198 + 4 * i)))), some (.inl x), some (.inl y)]) (st' := [.inr (.inr (.inl (66, 198 + 4 * i)))]) (m' := (f, l)) rfl rfl (fl_bo rfl) rfl ?_
    refine fl_Tq.gfV (k := 7) (v := f (198 + 4 * i) 7) rfl (fl_oks_ok ⟨t2_kc2 hi, True.intro⟩) rfl rfl ?_
    refine fl_Tq.ret rfl rfl rfl ?_
    unfold c2_tellWhat_v at k
    simp only [if_neg h1, if_neg h2, if_neg h3, if_neg h4, if_neg h5, if_neg h6, if_neg h7, if_neg h8, if_neg h9, if_neg h10, if_neg h11, if_neg h13, if_neg h15, if_pos h17] at k
    exact k
  by_cases h18 : x.toInt = 14
  · refine fl_Tq.swI (k := 14) rfl (fl_bo rfl) h18 rfl rfl ?_
    refine fl_Tq.stp (pc' := 206) (lv' := [some (.inr (.inr (.inl (66, 198 + 4 * i)))), some (.inl x), some (.inl y)]) (st' := [.inr (.inr (.inl (66, 198 + 4 * i)))]) (m' := (f, l)) rfl rfl (fl_bo rfl) rfl ?_
    refine fl_Tq.gfR (d := 1) (p' := 199 + 4 * i) rfl (fl_oks_ok ⟨t2_kc2 hi, True.intro⟩) rfl (by omega) ?_
    refine fl_Tq.gfV (k := 2) (v := f (199 + 4 * i) 2) rfl (fl_oks_ok ⟨t2_kt2 hi, True.intro⟩) rfl rfl ?_
    refine fl_Tq.ret rfl rfl rfl ?_
    unfold c2_tellWhat_v at k
    simp only [if_neg h1, if_neg h2, if_neg h3, if_neg h4, if_neg h5, if_neg h6, if_neg h7, if_neg h8, if_neg h9, if_neg h10, if_neg h11, if_neg h13, if_neg h15, if_neg h17, if_pos h18] at k
    exact k
  by_cases h19 : x.toInt = 15
  · refine fl_Tq.swI (k := 15) rfl (fl_bo rfl) h19 rfl rfl ?_
    refine fl_Tq.stp (pc' := 214) (lv' := [some (.inr (.inr (.inl (66, 198 + 4 * i)))), some (.inl x), some (.inl y)]) (st' := [.inr (.inr (.inl (66, 198 + 4 * i)))]) (m' := (f, l)) rfl rfl (fl_bo rfl) rfl ?_
    refine fl_Tq.gfV (k := 14) (v := f (198 + 4 * i) 14) rfl (fl_oks_ok ⟨t2_kc2 hi, True.intro⟩) rfl rfl ?_
    refine fl_Tq.ret rfl rfl rfl ?_
    unfold c2_tellWhat_v at k
    simp only [if_neg h1, if_neg h2, if_neg h3, if_neg h4, if_neg h5, if_neg h6, if_neg h7, if_neg h8, if_neg h9, if_neg h10, if_neg h11, if_neg h13, if_neg h15, if_neg h17, if_neg h18, if_pos h19] at k
    exact k
  by_cases h20 : x.toInt = 16
  · refine fl_Tq.swI (k := 16) rfl (fl_bo rfl) h20 rfl rfl ?_
    refine fl_Tq.stp (pc' := 219) (lv' := [some (.inr (.inr (.inl (66, 198 + 4 * i)))), some (.inl x), some (.inl y)]) (st' := [.inr (.inr (.inl (66, 198 + 4 * i)))]) (m' := (f, l)) rfl rfl (fl_bo rfl) rfl ?_
    refine fl_Tq.gfV (k := 15) (v := f (198 + 4 * i) 15) rfl (fl_oks_ok ⟨t2_kc2 hi, True.intro⟩) rfl rfl ?_
    refine fl_Tq.ret rfl rfl rfl ?_
    unfold c2_tellWhat_v at k
    simp only [if_neg h1, if_neg h2, if_neg h3, if_neg h4, if_neg h5, if_neg h6, if_neg h7, if_neg h8, if_neg h9, if_neg h10, if_neg h11, if_neg h13, if_neg h15, if_neg h17, if_neg h18, if_neg h19, if_pos h20] at k
    exact k
  by_cases h21 : x.toInt = 17
  · refine fl_Tq.swI (k := 17) rfl (fl_bo rfl) h21 rfl rfl ?_
    refine fl_Tq.stp (pc' := 224) (lv' := [some (.inr (.inr (.inl (66, 198 + 4 * i)))), some (.inl x), some (.inl y)]) (st' := [.inr (.inr (.inl (66, 198 + 4 * i)))]) (m' := (f, l)) rfl rfl (fl_bo rfl) rfl ?_
    refine fl_Tq.gfV (k := 16) (v := f (198 + 4 * i) 16) rfl (fl_oks_ok ⟨t2_kc2 hi, True.intro⟩) rfl rfl ?_
    refine fl_Tq.ret rfl rfl rfl ?_
    unfold c2_tellWhat_v at k
    simp only [if_neg h1, if_neg h2, if_neg h3, if_neg h4, if_neg h5, if_neg h6, if_neg h7, if_neg h8, if_neg h9, if_neg h10, if_neg h11, if_neg h13, if_neg h15, if_neg h17, if_neg h18, if_neg h19, if_neg h20, if_pos h21] at k
    exact k
  by_cases h22 : x.toInt = 18
  · refine fl_Tq.swI (k := 18) rfl (fl_bo rfl) h22 rfl rfl ?_
    refine fl_Tq.stp (pc' := 229) (lv' := [some (.inr (.inr (.inl (66, 198 + 4 * i)))), some (.inl x), some (.inl y)]) (st' := [.inr (.inr (.inl (66, 198 + 4 * i)))]) (m' := (f, l)) rfl rfl (fl_bo rfl) rfl ?_
    refine fl_Tq.gfV (k := 18) (v := f (198 + 4 * i) 18) rfl (fl_oks_ok ⟨t2_kc2 hi, True.intro⟩) rfl rfl ?_
    refine fl_Tq.ret rfl rfl rfl ?_
    unfold c2_tellWhat_v at k
    simp only [if_neg h1, if_neg h2, if_neg h3, if_neg h4, if_neg h5, if_neg h6, if_neg h7, if_neg h8, if_neg h9, if_neg h10, if_neg h11, if_neg h13, if_neg h15, if_neg h17, if_neg h18, if_neg h19, if_neg h20, if_neg h21, if_pos h22] at k
    exact k
  refine fl_Tq.swD rfl (fl_bo rfl) (by omega) rfl ?_
  refine fl_Tq.stp (pc' := 235) (lv' := [some (.inr (.inr (.inl (66, 198 + 4 * i)))), some (.inl x), some (.inl y)]) (st' := [.inl (-1000000000 : Int32)]) (m' := (f, l)) rfl rfl (fl_bo rfl) rfl ?_
  refine fl_Tq.ret rfl rfl rfl ?_
  unfold c2_tellWhat_v at k
  simp only [if_neg h1, if_neg h2, if_neg h3, if_neg h4, if_neg h5, if_neg h6, if_neg h7, if_neg h8, if_neg h9, if_neg h10, if_neg h11, if_neg h13, if_neg h15, if_neg h17, if_neg h18, if_neg h19, if_neg h20, if_neg h21, if_neg h22] at k
  exact k
