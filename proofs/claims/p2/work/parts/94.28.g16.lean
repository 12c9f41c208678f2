theorem c0_pA {L : Nat} {xs : Nat → Int32} {f : t2_F} {l : t2_L} {Q : Option fl_V → fl_M → Prop}   (k : fl_Tq (pw_P L xs) 57 16 [some (.inr (.inr (.inl (1, 1)))), none, none] [] (fl_row f 1 (upd (f 1) 6 (t2_min_v ((f 1 6) + (1 : Int32)) (9999 : Int32))), l) Q) : fl_Tq (pw_P L xs) 57 0 [some (.inr (.inr (.inl (1, 1)))), none, none] [] (f, l) Q := by
  refine fl_Tq.stp (pc' := 1) (lv' := [some (.inr (.inr (.inl (1, 1)))), none, none]) (st' := [.inr (.inr (.inl (1, 1)))]) (m' := (f, l)) rfl rfl (fl_bo rfl) rfl ?_
  refine fl_Tq.stp (pc' := 2) (lv' := [some (.inr (.inr (.inl (1, 1)))), none, none]) (st' := [.inr (.inr (.inl (1, 1))), .inr (.inr (.inl (1, 1)))]) (m' := (f, l)) rfl rfl (fl_bo rfl) rfl ?_
  refine fl_Tq.gfV (k := 6) (v := f 1 6) rfl (fl_bo rfl) rfl rfl ?_
  refine fl_Tq.cI (c := (1 : Int32)) rfl (by decide +kernel) (fl_bo rfl) ?_
  refine fl_Tq.stp (pc' := 7) (lv' := [some (.inr (.inr (.inl (1, 1)))), none, none]) (st' := [.inl ((f 1 6) + (1 : Int32)), .inr (.inr (.inl (1, 1)))]) (m' := (f, l)) rfl rfl (fl_bo rfl) rfl ?_
  refine fl_Tq.cS (c := (9999 : Int32)) rfl (by decide +kernel) (fl_bo rfl) ?_
  refine fl_Tq.cal rfl rfl (fl_bo rfl) rfl ?_
  refine t2_min_q  ?_
  show fl_Tq _ 57 13 [some (.inr (.inr (.inl (1, 1)))), none, none] [.inl (t2_min_v ((f 1 6) + (1 : Int32)) (9999 : Int32)), .inr (.inr (.inl (1, 1)))] (f, l) _
  refine fl_Tq.pfV (k := 6) (m' := (fl_row f 1 (upd (f 1) 6 (t2_min_v ((f 1 6) + (1 : Int32)) (9999 : Int32))), l)) rfl (fl_bo rfl) rfl (t2_upn rfl) ?_
  exact k
noncomputable def c0_pB_j20_0 (f : t2_F)  : Int32 := if (c0_moveBus_v f).toInt = 0 then (0 : Int32) else (32 : Int32)
theorem c0_pB {L : Nat} {xs : Nat → Int32} {f : t2_F} {l : t2_L} {Q : Option fl_V → fl_M → Prop}  (hc : 0 ≤ (f 1 5).toInt ∧ (f 1 5).toInt ≤ 16) (k : fl_Tq (pw_P L xs) 57 30 [some (.inr (.inr (.inl (1, 1)))), some (.inl (c0_pB_j20_0 f)), none] [] (c0_moveBus_m f, l) Q) : fl_Tq (pw_P L xs) 57 16 [some (.inr (.inr (.inl (1, 1)))), none, none] [] (f, l) Q := by
  refine fl_Tq.stp (pc' := 17) (lv' := [some (.inr (.inr (.inl (1, 1)))), none, none]) (st' := [.inr (.inr (.inl (1, 1)))]) (m' := (f, l)) rfl rfl (fl_bo rfl) rfl ?_
  refine fl_Tq.cal rfl rfl (fl_bo rfl) rfl ?_
  refine c0_moveBus_q hc ?_
  show fl_Tq _ 57 20 [some (.inr (.inr (.inl (1, 1)))), none, none] [.inl (c0_moveBus_v f)] (c0_moveBus_m f, l) _
  have hj116 : fl_Tq (pw_P L xs) 57 29 [some (.inr (.inr (.inl (1, 1)))), none, none] [.inl (c0_pB_j20_0 f)] (c0_moveBus_m f, l) Q → fl_Tq (pw_P L xs) 57 20 [some (.inr (.inr (.inl (1, 1)))), none, none] [.inl (c0_moveBus_v f)] (c0_moveBus_m f, l) Q := by
    intro hJ
    by_cases h1 : (c0_moveBus_v f).toInt = 0
    · refine fl_Tq.zt rfl (fl_bo rfl) (c1_eq_t h1) rfl ?_
      refine fl_Tq.cI (c := (0 : Int32)) rfl (by decide +kernel) (fl_bo rfl) ?_
      have e0 : (c0_pB_j20_0 f) = (0 : Int32) := by simp only [c0_pB_j20_0, if_pos h1]
      rw [e0] at hJ
      exact hJ
    · refine fl_Tq.zf rfl (fl_bo rfl) (c1_eq_f h1) rfl ?_
      refine fl_Tq.cB (c := (32 : Int32)) rfl (by decide +kernel) (fl_bo rfl) ?_
      refine fl_Tq.stp (pc' := 29) (lv' := [some (.inr (.inr (.inl (1, 1)))), none, none]) (st' := [.inl (32 : Int32)]) (m' := (c0_moveBus_m f, l)) rfl rfl (fl_bo rfl) rfl ?_
      have e0 : (c0_pB_j20_0 f) = (32 : Int32) := by simp only [c0_pB_j20_0, if_neg h1]
      rw [e0] at hJ
      exact hJ
  refine hj116 ?_
  show fl_Tq _ 57 29 [some (.inr (.inr (.inl (1, 1)))), none, none] [.inl (c0_pB_j20_0 f)] (c0_moveBus_m f, l) _
  refine fl_Tq.stp (pc' := 30) (lv' := [some (.inr (.inr (.inl (1, 1)))), some (.inl (c0_pB_j20_0 f)), none]) (st' := []) (m' := (c0_moveBus_m f, l)) rfl rfl (fl_bo rfl) rfl ?_
  exact k
theorem c0_pC1 {L : Nat} {xs : Nat → Int32} {f : t2_F} {l : t2_L} {Q : Option fl_V → fl_M → Prop} {so : Int32} (hc : 0 ≤ (f 1 5).toInt ∧ (f 1 5).toInt ≤ 16) (hz : 0 ≤ (f 3 6).toInt ∧ (f 3 6).toInt ≤ 6) (k : fl_Tq (pw_P L xs) 57 34 [some (.inr (.inr (.inl (1, 1)))), some (.inl so), none] [] (c0_letCurrent_m f, l) Q) : fl_Tq (pw_P L xs) 57 30 [some (.inr (.inr (.inl (1, 1)))), some (.inl so), none] [] (f, l) Q := by
  refine fl_Tq.stp (pc' := 31) (lv' := [some (.inr (.inr (.inl (1, 1)))), some (.inl so), none]) (st' := [.inr (.inr (.inl (1, 1)))]) (m' := (f, l)) rfl rfl (fl_bo rfl) rfl ?_
  refine fl_Tq.cal rfl rfl (fl_bo rfl) rfl ?_
  refine c0_letCurrent_q hc hz ?_
  show fl_Tq _ 57 34 [some (.inr (.inr (.inl (1, 1)))), some (.inl so), none] [] (c0_letCurrent_m f, l) _
  exact k
theorem c0_pC2 {L : Nat} {xs : Nat → Int32} {f : t2_F} {l : t2_L} {Q : Option fl_V → fl_M → Prop} {so : Int32} (hc : 0 ≤ (f 1 5).toInt ∧ (f 1 5).toInt ≤ 16) (hk : ∀ i : Nat, (i : Int) < (f 1 5).toInt → t2_cap (f (18 + 4 * i) 0)) (k : fl_Tq (pw_P L xs) 57 38 [some (.inr (.inr (.inl (1, 1)))), some (.inl so), none] [] (c0_passCells_m f, l) Q) : fl_Tq (pw_P L xs) 57 34 [some (.inr (.inr (.inl (1, 1)))), some (.inl so), none] [] (f, l) Q := by
  refine fl_Tq.stp (pc' := 35) (lv' := [some (.inr (.inr (.inl (1, 1)))), some (.inl so), none]) (st' := [.inr (.inr (.inl (1, 1)))]) (m' := (f, l)) rfl rfl (fl_bo rfl) rfl ?_
  refine fl_Tq.cal rfl rfl (fl_bo rfl) rfl ?_
  refine c0_passCells_q hc hk ?_
  show fl_Tq _ 57 38 [some (.inr (.inr (.inl (1, 1)))), some (.inl so), none] [] (c0_passCells_m f, l) _
  exact k
theorem c0_pC3 {L : Nat} {xs : Nat → Int32} {f : t2_F} {l : t2_L} {Q : Option fl_V → fl_M → Prop} {so : Int32} (hc : 0 ≤ (f 1 5).toInt ∧ (f 1 5).toInt ≤ 16) (hk : ∀ i : Nat, (i : Int) < (f 1 5).toInt → t2_cap (f (18 + 4 * i) 0)) (ho : 0 ≤ (f 4 13).toInt ∧ (f 4 13).toInt ≤ 16) (k : fl_Tq (pw_P L xs) 57 42 [some (.inr (.inr (.inl (1, 1)))), some (.inl so), none] [] (c0_balance_m f, l) Q) : fl_Tq (pw_P L xs) 57 38 [some (.inr (.inr (.inl (1, 1)))), some (.inl so), none] [] (f, l) Q := by
  refine fl_Tq.stp (pc' := 39) (lv' := [some (.inr (.inr (.inl (1, 1)))), some (.inl so), none]) (st' := [.inr (.inr (.inl (1, 1)))]) (m' := (f, l)) rfl rfl (fl_bo rfl) rfl ?_
  refine fl_Tq.cal rfl rfl (fl_bo rfl) rfl ?_
  refine c0_balance_q hc hk ho ?_
  show fl_Tq _ 57 42 [some (.inr (.inr (.inl (1, 1)))), some (.inl so), none] [] (c0_balance_m f, l) _
  exact k
theorem c0_pD {L : Nat} {xs : Nat → Int32} {f : t2_F} {l : t2_L} {Q : Option fl_V → fl_M → Prop} {so : Int32}  (k : fl_Tq (pw_P L xs) 57 69 [some (.inr (.inr (.inl (1, 1)))), some (.inl so), none] [] (fl_row f 1 (upd (f 1) 11 ((f 1 11) + (((f 4 6) - (f 1 11)) / (16 : Int32)))), l) Q) : fl_Tq (pw_P L xs) 57 42 [some (.inr (.inr (.inl (1, 1)))), some (.inl so), none] [] (f, l) Q := by
  refine fl_Tq.stp (pc' := 43) (lv' := [some (.inr (.inr (.inl (1, 1)))), some (.inl so), none]) (st' := [.inr (.inr (.inl (1, 1)))]) (m' := (f, l)) rfl rfl (fl_bo rfl) rfl ?_
  refine fl_Tq.stp (pc' := 44) (lv' := [some (.inr (.inr (.inl (1, 1)))), some (.inl so), none]) (st' := [.inr (.inr (.inl (1, 1))), .inr (.inr (.inl (1, 1)))]) (m' := (f, l)) rfl rfl (fl_bo rfl) rfl ?_
  refine fl_Tq.gfV (k := 11) (v := f 1 11) rfl (fl_bo rfl) rfl rfl ?_
  refine fl_Tq.stp (pc' := 48) (lv' := [some (.inr (.inr (.inl (1, 1)))), some (.inl so), none]) (st' := [.inr (.inr (.inl (1, 1))), .inl (f 1 11), .inr (.inr (.inl (1, 1)))]) (m' := (f, l)) rfl rfl (fl_bo rfl) rfl ?_
  refine fl_Tq.stp (pc' := 51) (lv' := [some (.inr (.inr (.inl (1, 1)))), some (.inl so), none]) (st' := [.inr (.inr (.inl (3, 3))), .inl (f 1 11), .inr (.inr (.inl (1, 1)))]) (m' := (f, l)) rfl rfl (fl_bo rfl) rfl ?_
  refine fl_Tq.stp (pc' := 54) (lv' := [some (.inr (.inr (.inl (1, 1)))), some (.inl so), none]) (st' := [.inr (.inr (.inl (4, 4))), .inl (f 1 11), .inr (.inr (.inl (1, 1)))]) (m' := (f, l)) rfl rfl (fl_bo rfl) rfl ?_
  refine fl_Tq.cB (c := (6 : Int32)) rfl (by decide +kernel) (fl_bo rfl) ?_
  refine fl_Tq.ldV (p := 4) (τ := 4) (n := 30) (z := (0, 0, 0)) (k := 6) (v := f 4 6) rfl (fl_bo rfl) rfl (by decide +kernel) (by decide) rfl ?_
  refine fl_Tq.stp (pc' := 58) (lv' := [some (.inr (.inr (.inl (1, 1)))), some (.inl so), none]) (st' := [.inr (.inr (.inl (1, 1))), .inl (f 4 6), .inl (f 1 11), .inr (.inr (.inl (1, 1)))]) (m' := (f, l)) rfl rfl (fl_bo rfl) rfl ?_
  refine fl_Tq.gfV (k := 11) (v := f 1 11) rfl (fl_bo rfl) rfl rfl ?_
  refine fl_Tq.stp (pc' := 62) (lv' := [some (.inr (.inr (.inl (1, 1)))), some (.inl so), none]) (st' := [.inl ((f 4 6) - (f 1 11)), .inl (f 1 11), .inr (.inr (.inl (1, 1)))]) (m' := (f, l)) rfl rfl (fl_bo rfl) rfl ?_
  refine fl_Tq.cB (c := (16 : Int32)) rfl (by decide +kernel) (fl_bo rfl) ?_
  refine fl_Tq.dv rfl (fl_bo rfl) (by decide +kernel) ?_
  refine fl_Tq.stp (pc' := 66) (lv' := [some (.inr (.inr (.inl (1, 1)))), some (.inl so), none]) (st' := [.inl ((f 1 11) + (((f 4 6) - (f 1 11)) / (16 : Int32))), .inr (.inr (.inl (1, 1)))]) (m' := (f, l)) rfl rfl (fl_bo rfl) rfl ?_
  refine fl_Tq.pfV (k := 11) (m' := (fl_row f 1 (upd (f 1) 11 ((f 1 11) + (((f 4 6) - (f 1 11)) / (16 : Int32)))), l)) rfl (fl_bo rfl) rfl (t2_upn rfl) ?_
  exact k
theorem c0_pE {L : Nat} {xs : Nat → Int32} {f : t2_F} {l : t2_L} {Q : Option fl_V → fl_M → Prop} {so : Int32} (hc : 0 ≤ (f 1 5).toInt ∧ (f 1 5).toInt ≤ 16) (k : fl_Tq (pw_P L xs) 57 73 [some (.inr (.inr (.inl (1, 1)))), some (.inl so), none] [] (c0_sMeasure_m f, l) Q) : fl_Tq (pw_P L xs) 57 69 [some (.inr (.inr (.inl (1, 1)))), some (.inl so), none] [] (f, l) Q := by
  refine fl_Tq.stp (pc' := 70) (lv' := [some (.inr (.inr (.inl (1, 1)))), some (.inl so), none]) (st' := [.inr (.inr (.inl (1, 1)))]) (m' := (f, l)) rfl rfl (fl_bo rfl) rfl ?_
  refine fl_Tq.cal rfl rfl (fl_bo rfl) rfl ?_
  refine c0_sMeasure_q hc ?_
  show fl_Tq _ 57 73 [some (.inr (.inr (.inl (1, 1)))), some (.inl so), none] [] (c0_sMeasure_m f, l) _
  exact k
theorem c0_pF {L : Nat} {xs : Nat → Int32} {f : t2_F} {l : t2_L} {Q : Option fl_V → fl_M → Prop} {so : Int32} (hc : 0 ≤ (f 1 5).toInt ∧ (f 1 5).toInt ≤ 16) (hd : 0 ≤ (c0_faultsOfCells_m f 1 5).toInt ∧ (c0_faultsOfCells_m f 1 5).toInt ≤ 16) (hl : c0_faultsOfPack_m (c0_faultsOfCells_m f) 13 0 = (24 : Int32) ∧ (0 ≤ (c0_faultsOfPack_m (c0_faultsOfCells_m f) 13 2).toInt ∧ (c0_faultsOfPack_m (c0_faultsOfCells_m f) 13 2).toInt ≤ 23) ∧ (0 ≤ (c0_faultsOfPack_m (c0_faultsOfCells_m f) 13 3).toInt ∧ (c0_faultsOfPack_m (c0_faultsOfCells_m f) 13 3).toInt ≤ 24)) (k : fl_Tq (pw_P L xs) 57 96 [some (.inr (.inr (.inl (1, 1)))), some (.inl so), some (.inl (c0_latch_v (c0_faultsOfPack_m (c0_faultsOfCells_m f)) ((so ||| (c0_faultsOfCells_v f)) ||| (c0_faultsOfPack_v (c0_faultsOfCells_m f))) ((c0_faultsOfPack_m (c0_faultsOfCells_m f)) 1 6)))] [] (c0_latch_m (c0_faultsOfPack_m (c0_faultsOfCells_m f)) ((so ||| (c0_faultsOfCells_v f)) ||| (c0_faultsOfPack_v (c0_faultsOfCells_m f))) ((c0_faultsOfPack_m (c0_faultsOfCells_m f)) 1 6), l) Q) : fl_Tq (pw_P L xs) 57 73 [some (.inr (.inr (.inl (1, 1)))), some (.inl so), none] [] (f, l) Q := by
  refine fl_Tq.stp (pc' := 74) (lv' := [some (.inr (.inr (.inl (1, 1)))), some (.inl so), none]) (st' := [.inr (.inr (.inl (1, 1)))]) (m' := (f, l)) rfl rfl (fl_bo rfl) rfl ?_
  refine fl_Tq.stp (pc' := 77) (lv' := [some (.inr (.inr (.inl (1, 1)))), some (.inl so), none]) (st' := [.inr (.inr (.inl (10, 10)))]) (m' := (f, l)) rfl rfl (fl_bo rfl) rfl ?_
  refine fl_Tq.stp (pc' := 78) (lv' := [some (.inr (.inr (.inl (1, 1)))), some (.inl so), none]) (st' := [.inl so, .inr (.inr (.inl (10, 10)))]) (m' := (f, l)) rfl rfl (fl_bo rfl) rfl ?_
  refine fl_Tq.stp (pc' := 79) (lv' := [some (.inr (.inr (.inl (1, 1)))), some (.inl so), none]) (st' := [.inr (.inr (.inl (1, 1))), .inl so, .inr (.inr (.inl (10, 10)))]) (m' := (f, l)) rfl rfl (fl_bo rfl) rfl ?_
  refine fl_Tq.cal rfl rfl (fl_bo rfl) rfl ?_
  refine c0_faultsOfCells_q hc ?_
  show fl_Tq _ 57 82 [some (.inr (.inr (.inl (1, 1)))), some (.inl so), none] [.inl (c0_faultsOfCells_v f), .inl so, .inr (.inr (.inl (10, 10)))] (c0_faultsOfCells_m f, l) _
  refine fl_Tq.stp (pc' := 83) (lv' := [some (.inr (.inr (.inl (1, 1)))), some (.inl so), none]) (st' := [.inl (so ||| (c0_faultsOfCells_v f)), .inr (.inr (.inl (10, 10)))]) (m' := (c0_faultsOfCells_m f, l)) rfl rfl (fl_bo rfl) rfl ?_
  refine fl_Tq.stp (pc' := 84) (lv' := [some (.inr (.inr (.inl (1, 1)))), some (.inl so), none]) (st' := [.inr (.inr (.inl (1, 1))), .inl (so ||| (c0_faultsOfCells_v f)), .inr (.inr (.inl (10, 10)))]) (m' := (c0_faultsOfCells_m f, l)) rfl rfl (fl_bo rfl) rfl ?_
  refine fl_Tq.cal rfl rfl (fl_bo rfl) rfl ?_
  refine c0_faultsOfPack_q hd ?_
  show fl_Tq _ 57 87 [some (.inr (.inr (.inl (1, 1)))), some (.inl so), none] [.inl (c0_faultsOfPack_v (c0_faultsOfCells_m f)), .inl (so ||| (c0_faultsOfCells_v f)), .inr (.inr (.inl (10, 10)))] (c0_faultsOfPack_m (c0_faultsOfCells_m f), l) _
  refine fl_Tq.stp (pc' := 88) (lv' := [some (.inr (.inr (.inl (1, 1)))), some (.inl so), none]) (st' := [.inl ((so ||| (c0_faultsOfCells_v f)) ||| (c0_faultsOfPack_v (c0_faultsOfCells_m f))), .inr (.inr (.inl (10, 10)))]) (m' := (c0_faultsOfPack_m (c0_faultsOfCells_m f), l)) rfl rfl (fl_bo rfl) rfl ?_
  refine fl_Tq.stp (pc' := 89) (lv' := [some (.inr (.inr (.inl (1, 1)))), some (.inl so), none]) (st' := [.inr (.inr (.inl (1, 1))), .inl ((so ||| (c0_faultsOfCells_v f)) ||| (c0_faultsOfPack_v (c0_faultsOfCells_m f))), .inr (.inr (.inl (10, 10)))]) (m' := (c0_faultsOfPack_m (c0_faultsOfCells_m f), l)) rfl rfl (fl_bo rfl) rfl ?_
  refine fl_Tq.gfV (k := 6) (v := (c0_faultsOfPack_m (c0_faultsOfCells_m f)) 1 6) rfl (fl_bo rfl) rfl rfl ?_
  refine fl_Tq.cal rfl rfl (fl_bo rfl) rfl ?_
  refine c0_latch_q hl ?_
  show fl_Tq _ 57 95 [some (.inr (.inr (.inl (1, 1)))), some (.inl so), none] [.inl (c0_latch_v (c0_faultsOfPack_m (c0_faultsOfCells_m f)) ((so ||| (c0_faultsOfCells_v f)) ||| (c0_faultsOfPack_v (c0_faultsOfCells_m f))) ((c0_faultsOfPack_m (c0_faultsOfCells_m f)) 1 6))] (c0_latch_m (c0_faultsOfPack_m (c0_faultsOfCells_m f)) ((so ||| (c0_faultsOfCells_v f)) ||| (c0_faultsOfPack_v (c0_faultsOfCells_m f))) ((c0_faultsOfPack_m (c0_faultsOfCells_m f)) 1 6), l) _
  refine fl_Tq.stp (pc' := 96) (lv' := [some (.inr (.inr (.inl (1, 1)))), some (.inl so), some (.inl (c0_latch_v (c0_faultsOfPack_m (c0_faultsOfCells_m f)) ((so ||| (c0_faultsOfCells_v f)) ||| (c0_faultsOfPack_v (c0_faultsOfCells_m f))) ((c0_faultsOfPack_m (c0_faultsOfCells_m f)) 1 6)))]) (st' := []) (m' := (c0_latch_m (c0_faultsOfPack_m (c0_faultsOfCells_m f)) ((so ||| (c0_faultsOfCells_v f)) ||| (c0_faultsOfPack_v (c0_faultsOfCells_m f))) ((c0_faultsOfPack_m (c0_faultsOfCells_m f)) 1 6), l)) rfl rfl (fl_bo rfl) rfl ?_
  exact k
theorem c0_pG {L : Nat} {xs : Nat → Int32} {f : t2_F} {l : t2_L} {Q : Option fl_V → fl_M → Prop} {so mo : Int32}  (k : ((f 10 3).toInt = 0) → fl_Tq (pw_P L xs) 57 111 [some (.inr (.inr (.inl (1, 1)))), some (.inl so), some (.inl mo)] [] (f, l) Q) (k1 : (¬ ((f 10 3).toInt = 0)) → fl_Tq (pw_P L xs) 57 111 [some (.inr (.inr (.inl (1, 1)))), some (.inl so), some (.inl mo)] [] (fl_row f 1 (upd (f 1) 7 (0 : Int32)), l) Q) : fl_Tq (pw_P L xs) 57 96 [some (.inr (.inr (.inl (1, 1)))), some (.inl so), some (.inl mo)] [] (f, l) Q := by
  refine fl_Tq.stp (pc' := 97) (lv' := [some (.inr (.inr (.inl (1, 1)))), some (.inl so), some (.inl mo)]) (st' := [.inr (.inr (.inl (1, 1)))]) (m' := (f, l)) rfl rfl (fl_bo rfl) rfl ?_
  refine fl_Tq.stp (pc' := 100) (lv' := [some (.inr (.inr (.inl (1, 1)))), some (.inl so), some (.inl mo)]) (st' := [.inr (.inr (.inl (10, 10)))]) (m' := (f, l)) rfl rfl (fl_bo rfl) rfl ?_
  refine fl_Tq.gfV (k := 3) (v := f 10 3) rfl (fl_bo rfl) rfl rfl ?_
  by_cases h1 : (f 10 3).toInt = 0
  · refine fl_Tq.zt rfl (fl_bo rfl) (c1_eq_t h1) rfl ?_
    exact k h1
  · refine fl_Tq.zf rfl (fl_bo rfl) (c1_eq_f h1) rfl ?_
    refine fl_Tq.stp (pc' := 107) (lv' := [some (.inr (.inr (.inl (1, 1)))), some (.inl so), some (.inl mo)]) (st' := [.inr (.inr (.inl (1, 1)))]) (m' := (f, l)) rfl rfl (fl_bo rfl) rfl ?_
    refine fl_Tq.cI (c := (0 : Int32)) rfl (by decide +kernel) (fl_bo rfl) ?_
    refine fl_Tq.pfV (k := 7) (m' := (fl_row f 1 (upd (f 1) 7 (0 : Int32)), l)) rfl (fl_bo rfl) rfl (t2_upn rfl) ?_
    exact k1 h1
theorem c0_pH1 {L : Nat} {xs : Nat → Int32} {f : t2_F} {l : t2_L} {Q : Option fl_V → fl_M → Prop} {so mo : Int32} (hc : 0 ≤ (f 1 5).toInt ∧ (f 1 5).toInt ≤ 16) (hkt : ∀ i : Nat, (i : Int) < (f 1 5).toInt → (1 ≤ (f (19 + 4 * i) 2).toInt ∧ (f (19 + 4 * i) 2).toInt ≤ 32) ∧ t2_p32 (f (20 + 4 * i)) ∧ t2_pt (f (18 + 4 * i) 3)) (hlt : f 16 0 = (32 : Int32) ∧ (0 ≤ (f 16 2).toInt ∧ (f 16 2).toInt ≤ 31) ∧ (0 ≤ (f 16 3).toInt ∧ (f 16 3).toInt ≤ 32)) (k : fl_Tq (pw_P L xs) 57 115 [some (.inr (.inr (.inl (1, 1)))), some (.inl so), some (.inl mo)] [] (c0_sKeep_m f, l) Q) : fl_Tq (pw_P L xs) 57 111 [some (.inr (.inr (.inl (1, 1)))), some (.inl so), some (.inl mo)] [] (f, l) Q := by
  refine fl_Tq.stp (pc' := 112) (lv' := [some (.inr (.inr (.inl (1, 1)))), some (.inl so), some (.inl mo)]) (st' := [.inr (.inr (.inl (1, 1)))]) (m' := (f, l)) rfl rfl (fl_bo rfl) rfl ?_
  refine fl_Tq.cal rfl rfl (fl_bo rfl) rfl ?_
  refine c0_sKeep_q hc hkt hlt ?_
  show fl_Tq _ 57 115 [some (.inr (.inr (.inl (1, 1)))), some (.inl so), some (.inl mo)] [] (c0_sKeep_m f, l) _
  exact k
theorem c0_pH2 {L : Nat} {xs : Nat → Int32} {f : t2_F} {l : t2_L} {Q : Option fl_V → fl_M → Prop} {so mo : Int32} (hc : 0 ≤ (f 1 5).toInt ∧ (f 1 5).toInt ≤ 16) (hrn : 0 ≤ (f 3 8).toInt ∧ (f 3 8).toInt ≤ 8) (hru : ∀ k : Nat, k < 8 → 0 ≤ (f 9 ((k * 5) + 3)).toInt ∧ (f 9 ((k * 5) + 3)).toInt ≤ 29) (k : fl_Tq (pw_P L xs) 57 119 [some (.inr (.inr (.inl (1, 1)))), some (.inl so), some (.inl mo)] [] (c0_obeyRules_m f, l) Q) : fl_Tq (pw_P L xs) 57 115 [some (.inr (.inr (.inl (1, 1)))), some (.inl so), some (.inl mo)] [] (f, l) Q := by
  refine fl_Tq.stp (pc' := 116) (lv' := [some (.inr (.inr (.inl (1, 1)))), some (.inl so), some (.inl mo)]) (st' := [.inr (.inr (.inl (1, 1)))]) (m' := (f, l)) rfl rfl (fl_bo rfl) rfl ?_
  refine fl_Tq.cal rfl rfl (fl_bo rfl) rfl ?_
  refine c0_obeyRules_q hc hrn hru ?_
  show fl_Tq _ 57 119 [some (.inr (.inr (.inl (1, 1)))), some (.inl so), some (.inl mo)] [] (c0_obeyRules_m f, l) _
  exact k
theorem c0_pI {L : Nat} {xs : Nat → Int32} {f : t2_F} {l : t2_L} {Q : Option fl_V → fl_M → Prop} {so mo : Int32}  (k : Q (some (.inl mo)) (fl_row f 1 (upd (f 1) 10 (f 1 9)), l)) : fl_Tq (pw_P L xs) 57 119 [some (.inr (.inr (.inl (1, 1)))), some (.inl so), some (.inl mo)] [] (f, l) Q := by
  refine fl_Tq.stp (pc' := 120) (lv' := [some (.inr (.inr (.inl (1, 1)))), some (.inl so), some (.inl mo)]) (st' := [.inr (.inr (.inl (1, 1)))]) (m' := (f, l)) rfl rfl (fl_bo rfl) rfl ?_
  refine fl_Tq.stp (pc' := 121) (lv' := [some (.inr (.inr (.inl (1, 1)))), some (.inl so), some (.inl mo)]) (st' := [.inr (.inr (.inl (1, 1))), .inr (.inr (.inl (1, 1)))]) (m' := (f, l)) rfl rfl (fl_bo rfl) rfl ?_
  refine fl_Tq.gfV (k := 9) (v := f 1 9) rfl (fl_bo rfl) rfl rfl ?_
  refine fl_Tq.pfV (k := 10) (m' := (fl_row f 1 (upd (f 1) 10 (f 1 9)), l)) rfl (fl_bo rfl) rfl (t2_upn rfl) ?_
  refine fl_Tq.stp (pc' := 128) (lv' := [some (.inr (.inr (.inl (1, 1)))), some (.inl so), some (.inl mo)]) (st' := [.inl mo]) (m' := (fl_row f 1 (upd (f 1) 10 (f 1 9)), l)) rfl rfl (fl_bo rfl) rfl ?_
  exact fl_Tq.ret rfl rfl rfl k
theorem r_pA {L : Nat} {xs : Nat → Int32} {f : t2_F} {l : t2_L} {Q : Option fl_V → fl_M → Prop}   (k : fl_Tq (pw_P L xs) 237 11 [some (.inr (.inr (.inl (76, 277)))), none] [] (fl_row f 280 (upd (f 280) 7 ((f 280 7) + (1 : Int32))), l) Q) : fl_Tq (pw_P L xs) 237 0 [some (.inr (.inr (.inl (76, 277)))), none] [] (f, l) Q := by
  refine fl_Tq.stp (pc' := 1) (lv' := [some (.inr (.inr (.inl (76, 277)))), none]) (st' := [.inr (.inr (.inl (76, 277)))]) (m' := (f, l)) rfl rfl (fl_bo rfl) rfl ?_
  refine fl_Tq.stp (pc' := 4) (lv' := [some (.inr (.inr (.inl (76, 277)))), none]) (st' := [.inr (.inr (.inl (79, 280)))]) (m' := (f, l)) rfl rfl (fl_bo rfl) rfl ?_
  refine fl_Tq.cB (c := (7 : Int32)) rfl (by decide +kernel) (fl_bo rfl) ?_
  refine fl_Tq.stp (pc' := 7) (lv' := [some (.inr (.inr (.inl (76, 277)))), none]) (st' := [.inl (7 : Int32), .inr (.inr (.inl (79, 280))), .inl (7 : Int32), .inr (.inr (.inl (79, 280)))]) (m' := (f, l)) rfl rfl (fl_bo rfl) rfl ?_
  refine fl_Tq.ldV (p := 280) (τ := 79) (n := 29780) (z := (0, 0, 0)) (k := 7) (v := f 280 7) rfl (fl_bo rfl) rfl (by decide +kernel) (by decide) rfl ?_
  refine fl_Tq.cI (c := (1 : Int32)) rfl (by decide +kernel) (fl_bo rfl) ?_
  refine fl_Tq.stp (pc' := 10) (lv' := [some (.inr (.inr (.inl (76, 277)))), none]) (st' := [.inl ((f 280 7) + (1 : Int32)), .inl (7 : Int32), .inr (.inr (.inl (79, 280)))]) (m' := (f, l)) rfl rfl (fl_bo rfl) rfl ?_
  refine fl_Tq.svV (p := 280) (τ := 79) (n := 29780) (z := (0, 0, 0)) (k := 7) (m' := (fl_row f 280 (upd (f 280) 7 ((f 280 7) + (1 : Int32))), l)) rfl (fl_bo rfl) rfl (by decide +kernel) (by decide) (t2_upn rfl) ?_
  exact k
theorem r_pB1 {L : Nat} {xs : Nat → Int32} {f : t2_F} {l : t2_L} {Q : Option fl_V → fl_M → Prop}  (hn : 0 ≤ (f 280 2).toInt ∧ (f 280 2).toInt ≤ 16) (hr : t2_RS f) (hk : ∀ C : Nat, (C : Int) < (f 280 2).toInt → t2_ck f C) (k : fl_Tq (pw_P L xs) 237 15 [some (.inr (.inr (.inl (76, 277)))), none] [] (r_goBus_m f, l) Q) : fl_Tq (pw_P L xs) 237 11 [some (.inr (.inr (.inl (76, 277)))), none] [] (f, l) Q := by
  refine fl_Tq.stp (pc' := 12) (lv' := [some (.inr (.inr (.inl (76, 277)))), none]) (st' := [.inr (.inr (.inl (76, 277)))]) (m' := (f, l)) rfl rfl (fl_bo rfl) rfl ?_
  refine fl_Tq.cal rfl rfl (fl_bo rfl) rfl ?_
  refine r_goBus_q hn hr hk ?_
  show fl_Tq _ 237 15 [some (.inr (.inr (.inl (76, 277)))), none] [] (r_goBus_m f, l) _
  exact k
theorem r_pB2 {L : Nat} {xs : Nat → Int32} {f : t2_F} {l : t2_L} {Q : Option fl_V → fl_M → Prop}  (hn : 0 ≤ (f 280 2).toInt ∧ (f 280 2).toInt ≤ 16) (hr : t2_RS f) (hk : ∀ C : Nat, (C : Int) < (f 280 2).toInt → t2_ck f C) (hz : 0 ≤ (f 280 17).toInt ∧ (f 280 17).toInt ≤ 6) (k : fl_Tq (pw_P L xs) 237 19 [some (.inr (.inr (.inl (76, 277)))), none] [] (r_goCurrent_m f, l) Q) : fl_Tq (pw_P L xs) 237 15 [some (.inr (.inr (.inl (76, 277)))), none] [] (f, l) Q := by
  refine fl_Tq.stp (pc' := 16) (lv' := [some (.inr (.inr (.inl (76, 277)))), none]) (st' := [.inr (.inr (.inl (76, 277)))]) (m' := (f, l)) rfl rfl (fl_bo rfl) rfl ?_
  refine fl_Tq.cal rfl rfl (fl_bo rfl) rfl ?_
  refine r_goCurrent_q hn hr hk hz ?_
  show fl_Tq _ 237 19 [some (.inr (.inr (.inl (76, 277)))), none] [] (r_goCurrent_m f, l) _
  exact k
theorem r_pB3 {L : Nat} {xs : Nat → Int32} {f : t2_F} {l : t2_L} {Q : Option fl_V → fl_M → Prop}  (hn : 0 ≤ (f 280 2).toInt ∧ (f 280 2).toInt ≤ 16) (hb : 0 ≤ ((3600 : Int32) * (f 280 58)).toInt) (k : fl_Tq (pw_P L xs) 237 23 [some (.inr (.inr (.inl (76, 277)))), none] [] (r_goCells_m f, l) Q) : fl_Tq (pw_P L xs) 237 19 [some (.inr (.inr (.inl (76, 277)))), none] [] (f, l) Q := by
  refine fl_Tq.stp (pc' := 20) (lv' := [some (.inr (.inr (.inl (76, 277)))), none]) (st' := [.inr (.inr (.inl (76, 277)))]) (m' := (f, l)) rfl rfl (fl_bo rfl) rfl ?_
  refine fl_Tq.cal rfl rfl (fl_bo rfl) rfl ?_
  refine r_goCells_q hn hb ?_
  show fl_Tq _ 237 23 [some (.inr (.inr (.inl (76, 277)))), none] [] (r_goCells_m f, l) _
  exact k
theorem r_pB4 {L : Nat} {xs : Nat → Int32} {f : t2_F} {l : t2_L} {Q : Option fl_V → fl_M → Prop}  (hn : 0 ≤ (f 280 2).toInt ∧ (f 280 2).toInt ≤ 16) (hk : ∀ C : Nat, (C : Int) < (f 280 2).toInt → t2_ck f C) (ho : 0 ≤ (f 280 47).toInt ∧ (f 280 47).toInt ≤ 16) (k : fl_Tq (pw_P L xs) 237 27 [some (.inr (.inr (.inl (76, 277)))), none] [] (r_goBalance_m f, l) Q) : fl_Tq (pw_P L xs) 237 23 [some (.inr (.inr (.inl (76, 277)))), none] [] (f, l) Q := by
  refine fl_Tq.stp (pc' := 24) (lv' := [some (.inr (.inr (.inl (76, 277)))), none]) (st' := [.inr (.inr (.inl (76, 277)))]) (m' := (f, l)) rfl rfl (fl_bo rfl) rfl ?_
  refine fl_Tq.cal rfl rfl (fl_bo rfl) rfl ?_
  refine r_goBalance_q hn hk ho ?_
  show fl_Tq _ 237 27 [some (.inr (.inr (.inl (76, 277)))), none] [] (r_goBalance_m f, l) _
  exact k
theorem r_pC {L : Nat} {xs : Nat → Int32} {f : t2_F} {l : t2_L} {Q : Option fl_V → fl_M → Prop}   (k : fl_Tq (pw_P L xs) 237 54 [some (.inr (.inr (.inl (76, 277)))), none] [] (fl_row f 280 (upd (f 280) 8 ((f 280 8) + (((f 280 40) - (f 280 8)) / (16 : Int32)))), l) Q) : fl_Tq (pw_P L xs) 237 27 [some (.inr (.inr (.inl (76, 277)))), none] [] (f, l) Q := by
  refine fl_Tq.stp (pc' := 28) (lv' := [some (.inr (.inr (.inl (76, 277)))), none]) (st' := [.inr (.inr (.inl (76, 277)))]) (m' := (f, l)) rfl rfl (fl_bo rfl) rfl ?_
  refine fl_Tq.stp (pc' := 31) (lv' := [some (.inr (.inr (.inl (76, 277)))), none]) (st' := [.inr (.inr (.inl (79, 280)))]) (m' := (f, l)) rfl rfl (fl_bo rfl) rfl ?_
  refine fl_Tq.cB (c := (8 : Int32)) rfl (by decide +kernel) (fl_bo rfl) ?_
  refine fl_Tq.stp (pc' := 34) (lv' := [some (.inr (.inr (.inl (76, 277)))), none]) (st' := [.inl (8 : Int32), .inr (.inr (.inl (79, 280))), .inl (8 : Int32), .inr (.inr (.inl (79, 280)))]) (m' := (f, l)) rfl rfl (fl_bo rfl) rfl ?_
  refine fl_Tq.ldV (p := 280) (τ := 79) (n := 29780) (z := (0, 0, 0)) (k := 8) (v := f 280 8) rfl (fl_bo rfl) rfl (by decide +kernel) (by decide) rfl ?_
  refine fl_Tq.stp (pc' := 36) (lv' := [some (.inr (.inr (.inl (76, 277)))), none]) (st' := [.inr (.inr (.inl (76, 277))), .inl (f 280 8), .inl (8 : Int32), .inr (.inr (.inl (79, 280)))]) (m' := (f, l)) rfl rfl (fl_bo rfl) rfl ?_
  refine fl_Tq.cB (c := (6 : Int32)) rfl (by decide +kernel) (fl_bo rfl) ?_
  refine fl_Tq.cal rfl rfl (fl_bo rfl) rfl ?_
  refine t2_its (W := 6) (v := f 280 40) (by decide +kernel) (by decide) rfl ?_
  show fl_Tq _ 237 41 [some (.inr (.inr (.inl (76, 277)))), none] [.inl (f 280 40), .inl (f 280 8), .inl (8 : Int32), .inr (.inr (.inl (79, 280)))] (f, l) _
  refine fl_Tq.stp (pc' := 42) (lv' := [some (.inr (.inr (.inl (76, 277)))), none]) (st' := [.inr (.inr (.inl (76, 277))), .inl (f 280 40), .inl (f 280 8), .inl (8 : Int32), .inr (.inr (.inl (79, 280)))]) (m' := (f, l)) rfl rfl (fl_bo rfl) rfl ?_
  refine fl_Tq.stp (pc' := 45) (lv' := [some (.inr (.inr (.inl (76, 277)))), none]) (st' := [.inr (.inr (.inl (79, 280))), .inl (f 280 40), .inl (f 280 8), .inl (8 : Int32), .inr (.inr (.inl (79, 280)))]) (m' := (f, l)) rfl rfl (fl_bo rfl) rfl ?_
  refine fl_Tq.cB (c := (8 : Int32)) rfl (by decide +kernel) (fl_bo rfl) ?_
  refine fl_Tq.ldV (p := 280) (τ := 79) (n := 29780) (z := (0, 0, 0)) (k := 8) (v := f 280 8) rfl (fl_bo rfl) rfl (by decide +kernel) (by decide) rfl ?_
  refine fl_Tq.stp (pc' := 49) (lv' := [some (.inr (.inr (.inl (76, 277)))), none]) (st' := [.inl ((f 280 40) - (f 280 8)), .inl (f 280 8), .inl (8 : Int32), .inr (.inr (.inl (79, 280)))]) (m' := (f, l)) rfl rfl (fl_bo rfl) rfl ?_
  refine fl_Tq.cB (c := (16 : Int32)) rfl (by decide +kernel) (fl_bo rfl) ?_
  refine fl_Tq.dv rfl (fl_bo rfl) (by decide +kernel) ?_
  refine fl_Tq.stp (pc' := 53) (lv' := [some (.inr (.inr (.inl (76, 277)))), none]) (st' := [.inl ((f 280 8) + (((f 280 40) - (f 280 8)) / (16 : Int32))), .inl (8 : Int32), .inr (.inr (.inl (79, 280)))]) (m' := (f, l)) rfl rfl (fl_bo rfl) rfl ?_
  refine fl_Tq.svV (p := 280) (τ := 79) (n := 29780) (z := (0, 0, 0)) (k := 8) (m' := (fl_row f 280 (upd (f 280) 8 ((f 280 8) + (((f 280 40) - (f 280 8)) / (16 : Int32)))), l)) rfl (fl_bo rfl) rfl (by decide +kernel) (by decide) (t2_upn rfl) ?_
  exact k
theorem r_pD {L : Nat} {xs : Nat → Int32} {f : t2_F} {l : t2_L} {Q : Option fl_V → fl_M → Prop}  (hn : 0 ≤ (f 280 2).toInt ∧ (f 280 2).toInt ≤ 16) (hr : t2_RS f) (hk : ∀ C : Nat, (C : Int) < (f 280 2).toInt → t2_ck f C) (hw : ∀ C : Nat, (C : Int) < (f 280 2).toInt → -1 ≤ (f 280 (444 + 61 * C + 16)).toInt ∧ (f 280 (444 + 61 * C + 16)).toInt ≤ 1000) (k : fl_Tq (pw_P L xs) 237 58 [some (.inr (.inr (.inl (76, 277)))), none] [] (r_goMeasure_m f, l) Q) : fl_Tq (pw_P L xs) 237 54 [some (.inr (.inr (.inl (76, 277)))), none] [] (f, l) Q := by
  refine fl_Tq.stp (pc' := 55) (lv' := [some (.inr (.inr (.inl (76, 277)))), none]) (st' := [.inr (.inr (.inl (76, 277)))]) (m' := (f, l)) rfl rfl (fl_bo rfl) rfl ?_
  refine fl_Tq.cal rfl rfl (fl_bo rfl) rfl ?_
  refine r_goMeasure_q hn hr hk hw ?_
  show fl_Tq _ 237 58 [some (.inr (.inr (.inl (76, 277)))), none] [] (r_goMeasure_m f, l) _
  exact k
theorem r_pE {L : Nat} {xs : Nat → Int32} {f : t2_F} {l : t2_L} {Q : Option fl_V → fl_M → Prop}  (hn : 0 ≤ (f 280 2).toInt ∧ (f 280 2).toInt ≤ 16) (hr : t2_RS f) (hk : ∀ C : Nat, (C : Int) < (f 280 2).toInt → t2_ck f C) (hp : (f 277 7).toInt = 0) (k : fl_Tq (pw_P L xs) 237 69 [some (.inr (.inr (.inl (76, 277)))), none] [] (r_goTaper_m f, l) Q) : fl_Tq (pw_P L xs) 237 58 [some (.inr (.inr (.inl (76, 277)))), none] [] (f, l) Q := by
  refine fl_Tq.stp (pc' := 59) (lv' := [some (.inr (.inr (.inl (76, 277)))), none]) (st' := [.inr (.inr (.inl (76, 277)))]) (m' := (f, l)) rfl rfl (fl_bo rfl) rfl ?_
  refine fl_Tq.gfV (k := 7) (v := f 277 7) rfl (fl_bo rfl) rfl rfl ?_
  refine fl_Tq.zf rfl (fl_bo rfl) (c1_ne_f hp) rfl ?_
  refine fl_Tq.stp (pc' := 66) (lv' := [some (.inr (.inr (.inl (76, 277)))), none]) (st' := [.inr (.inr (.inl (76, 277)))]) (m' := (f, l)) rfl rfl (fl_bo rfl) rfl ?_
  refine fl_Tq.cal rfl rfl (fl_bo rfl) rfl ?_
  refine r_goTaper_q hn hr hk ?_
  show fl_Tq _ 237 69 [some (.inr (.inr (.inl (76, 277)))), none] [] (r_goTaper_m f, l) _
  exact k
theorem r_pF {L : Nat} {xs : Nat → Int32} {f : t2_F} {l : t2_L} {Q : Option fl_V → fl_M → Prop}  (hn : 0 ≤ (f 280 2).toInt ∧ (f 280 2).toInt ≤ 16) (hr : t2_RS f) (hk : ∀ C : Nat, (C : Int) < (f 280 2).toInt → t2_ck f C) (hs : f 277 4 = 0 ∨ f 277 4 = 1) (hb : 0 ≤ (f 280 20).toInt ∧ (f 280 20).toInt ≤ 24) (k : fl_Tq (pw_P L xs) 237 74 [some (.inr (.inr (.inl (76, 277)))), some (.inl (r_goFaults_v f))] [] (r_goFaults_m f, l) Q) : fl_Tq (pw_P L xs) 237 69 [some (.inr (.inr (.inl (76, 277)))), none] [] (f, l) Q := by
  refine fl_Tq.stp (pc' := 70) (lv' := [some (.inr (.inr (.inl (76, 277)))), none]) (st' := [.inr (.inr (.inl (76, 277)))]) (m' := (f, l)) rfl rfl (fl_bo rfl) rfl ?_
  refine fl_Tq.cal rfl rfl (fl_bo rfl) rfl ?_
  refine r_goFaults_q hn hr hk hs hb ?_
  show fl_Tq _ 237 73 [some (.inr (.inr (.inl (76, 277)))), none] [.inl (r_goFaults_v f)] (r_goFaults_m f, l) _
  refine fl_Tq.stp (pc' := 74) (lv' := [some (.inr (.inr (.inl (76, 277)))), some (.inl (r_goFaults_v f))]) (st' := []) (m' := (r_goFaults_m f, l)) rfl rfl (fl_bo rfl) rfl ?_
  exact k
theorem r_pG {L : Nat} {xs : Nat → Int32} {f : t2_F} {l : t2_L} {Q : Option fl_V → fl_M → Prop} {mo : Int32} (hn : 0 ≤ (f 280 2).toInt ∧ (f 280 2).toInt ≤ 16) (hr : t2_RS f) (hk : ∀ C : Nat, (C : Int) < (f 280 2).toInt → t2_ck f C) (htr : 0 ≤ (f 280 21).toInt ∧ (f 280 21).toInt ≤ 32) (hkt : ∀ C : Nat, (C : Int) < (f 280 2).toInt → (1 ≤ (f 280 (444 + 61 * C + 10)).toInt ∧ (f 280 (444 + 61 * C + 10)).toInt ≤ 32) ∧ r_tv f C) (k : fl_Tq (pw_P L xs) 237 78 [some (.inr (.inr (.inl (76, 277)))), some (.inl mo)] [] (r_goKept_m f, l) Q) : fl_Tq (pw_P L xs) 237 74 [some (.inr (.inr (.inl (76, 277)))), some (.inl mo)] [] (f, l) Q := by
  refine fl_Tq.stp (pc' := 75) (lv' := [some (.inr (.inr (.inl (76, 277)))), some (.inl mo)]) (st' := [.inr (.inr (.inl (76, 277)))]) (m' := (f, l)) rfl rfl (fl_bo rfl) rfl ?_
  refine fl_Tq.cal rfl rfl (fl_bo rfl) rfl ?_
  refine r_goKept_q hn hr hk htr hkt ?_
  show fl_Tq _ 237 78 [some (.inr (.inr (.inl (76, 277)))), some (.inl mo)] [] (r_goKept_m f, l) _
  exact k
theorem r_pH {L : Nat} {xs : Nat → Int32} {f : t2_F} {l : t2_L} {Q : Option fl_V → fl_M → Prop} {mo : Int32} (hn : 0 ≤ (f 280 2).toInt ∧ (f 280 2).toInt ≤ 16) (hr : t2_RS f) (hk : ∀ C : Nat, (C : Int) < (f 280 2).toInt → t2_ck f C) (hrn : 0 ≤ (f 280 18).toInt ∧ (f 280 18).toInt ≤ 8) (hru : ∀ k : Nat, k < 8 → 0 ≤ (f 280 ((79 + (5 * k)) + 3)).toInt ∧ (f 280 ((79 + (5 * k)) + 3)).toInt ≤ 29) (hp : (f 277 7).toInt = 0) (k : fl_Tq (pw_P L xs) 237 89 [some (.inr (.inr (.inl (76, 277)))), some (.inl mo)] [] (r_goRules_m f, l) Q) : fl_Tq (pw_P L xs) 237 78 [some (.inr (.inr (.inl (76, 277)))), some (.inl mo)] [] (f, l) Q := by
  refine fl_Tq.stp (pc' := 79) (lv' := [some (.inr (.inr (.inl (76, 277)))), some (.inl mo)]) (st' := [.inr (.inr (.inl (76, 277)))]) (m' := (f, l)) rfl rfl (fl_bo rfl) rfl ?_
  refine fl_Tq.gfV (k := 7) (v := f 277 7) rfl (fl_bo rfl) rfl rfl ?_
  refine fl_Tq.zf rfl (fl_bo rfl) (c1_ne_f hp) rfl ?_
  refine fl_Tq.stp (pc' := 86) (lv' := [some (.inr (.inr (.inl (76, 277)))), some (.inl mo)]) (st' := [.inr (.inr (.inl (76, 277)))]) (m' := (f, l)) rfl rfl (fl_bo rfl) rfl ?_
  refine fl_Tq.cal rfl rfl (fl_bo rfl) rfl ?_
  refine r_goRules_q hn hr hk hrn hru ?_
  show fl_Tq _ 237 89 [some (.inr (.inr (.inl (76, 277)))), some (.inl mo)] [] (r_goRules_m f, l) _
  exact k
theorem r_pI {L : Nat} {xs : Nat → Int32} {f : t2_F} {l : t2_L} {Q : Option fl_V → fl_M → Prop} {mo : Int32}  (k : Q (some (.inl mo)) (f, l)) : fl_Tq (pw_P L xs) 237 89 [some (.inr (.inr (.inl (76, 277)))), some (.inl mo)] [] (f, l) Q := by
  refine fl_Tq.stp (pc' := 90) (lv' := [some (.inr (.inr (.inl (76, 277)))), some (.inl mo)]) (st' := [.inl mo]) (m' := (f, l)) rfl rfl (fl_bo rfl) rfl ?_
  exact fl_Tq.ret rfl rfl rfl k
