/-! 94.28.g16.lean.txt -/
section
theorem c0_pA {L : Nat} {xs : Nat → Int32} {f : t2_F} {l : t2_L} {Q : Option fl_V → fl_M → Prop}   (k : fl_Tq (pw_P L xs) 57 16 [some (.inr (.inr (.inl (1, 1)))), none, none] [] (fl_row f 1 (upd (f 1) 6 (t2_min_v ((f 1 6) + (1 : Int32)) (9999 : Int32))), l) Q) : fl_Tq (pw_P L xs) 57 0 [some (.inr (.inr (.inl (1, 1)))), none, none] [] (f, l) Q := by
  refine fl_Tq.stp (pc' := 1) (lv' := [some (.inr (.inr (.inl (1, 1)))), none, none]) (st' := [.inr (.inr (.inl (1, 1)))]) (m' := (f, l)) rfl rfl (fl_bo rfl) rfl ?_
  refine fl_Tq.stp (pc' := 2) (lv' := [some (.inr (.inr (.inl (1, 1)))), none, none]) (st' := [.inr (.inr (.inl (1, 1))), .inr (.inr (.inl (1, 1)))]) (m' := (f, l)) rfl rfl (fl_bo rfl) rfl ?_
  refine fl_Tq.gfV (k := 6) (v := f 1 6) rfl (fl_bo rfl) rfl rfl ?_
  refine fl_Tq.cI (c := (1 : Int32)) rfl (by decide +kernel) (fl_bo rfl) ?_
  refine fl_Tq.stp (pc' := 7) (lv' := [some (.inr (.inr (.inl (1, 1)))), none, none]) (st' := [.inl ((f 1 6) + (1 : Int32)), .inr (.inr (.inl (1, 1)))]) (m' := (f, l)) rfl rfl (fl_bo rfl) rfl ?_
  refine fl_Tq.cS (c := (9999 : Int32)) rfl (by decide +kernel) (fl_bo rfl) ?_
  refine fl_Tq.cal rfl rfl (fl_bo rfl) rfl ?_
  refine t2_min_q  ?_
  show fl_Tq _ 57 13 [some (.inr (.inr (.inl (1, 1)))), none, none] [.inl (t2_min_v ((f 1 6) + (1 : Int32)) (9999 : Int32)), .inr (.inr (.inl (1, 1)))] (f, l) _
  refine fl_Tq.pfV (k := 6) (m' := (fl_row f 1 (upd (f 1) 6 (t2_min_v ((f 1 6) + (1 : Int32)) (9999 : Int32))), l)) rfl (fl_bo rfl) rfl (t2_upn rfl) ?_
  exact k
noncomputable def c0_pB_j20_0 (f : t2_F)  : Int32 := if (c0_moveBus_v f).toInt = 0 then (0 : Int32) else (32 : Int32)
theorem c0_pB {L : Nat} {xs : Nat → Int32} {f : t2_F} {l : t2_L} {Q : Option fl_V → fl_M → Prop}  (hc : 0 ≤ (f 1 5).toInt ∧ (f 1 5).toInt ≤ 16) (k : fl_Tq (pw_P L xs) 57 30 [some (.inr (.inr (.inl (1, 1)))), some (.inl (c0_pB_j20_0 f)), none] [] (c0_moveBus_m f, l) Q) : fl_Tq (pw_P L xs) 57 16 [some (.inr (.inr (.inl (1, 1)))), none, none] [] (f, l) Q := by
  refine fl_Tq.stp (pc' := 17) (lv' := [some (.inr (.inr (.inl (1, 1)))), none, none]) (st' := [.inr (.inr (.inl (1, 1)))]) (m' := (f, l)) rfl rfl (fl_bo rfl) rfl ?_
  refine fl_Tq.cal rfl rfl (fl_bo rfl) rfl ?_
  refine c0_moveBus_q hc ?_
  show fl_Tq _ 57 20 [some (.inr (.inr (.inl (1, 1)))), none, none] [.inl (c0_moveBus_v f)] (c0_moveBus_m f, l) _
  have hj175 : fl_Tq (pw_P L xs) 57 29 [some (.inr (.inr (.inl (1, 1)))), none, none] [.inl (c0_pB_j20_0 f)] (c0_moveBus_m f, l) Q → fl_Tq (pw_P L xs) 57 20 [some (.inr (.inr (.inl (1, 1)))), none, none] [.inl (c0_moveBus_v f)] (c0_moveBus_m f, l) Q := by
    intro hJ
    by_cases h1 : (c0_moveBus_v f).toInt = 0
    · refine fl_Tq.zt rfl (fl_bo rfl) (c1_eq_t h1) rfl ?_
      refine fl_Tq.cI (c := (0 : Int32)) rfl (by decide +kernel) (fl_bo rfl) ?_
      have e0 : (c0_pB_j20_0 f) = (0 : Int32) := by simp only [c0_pB_j20_0, if_pos h1]
      rw [e0] at hJ
      exact hJ
    · refine fl_Tq.zf rfl (fl_bo rfl) (c1_eq_f h1) rfl ?_
      refine fl_Tq.cB (c := (32 : Int32)) rfl (by decide +kernel) (fl_bo rfl) ?_
      refine fl_Tq.stp (pc' := 29) (lv' := [some (.inr (.inr (.inl (1, 1)))), none, none]) (st' := [.inl (32 : Int32)]) (m' := (c0_moveBus_m f, l)) rfl rfl (fl_bo rfl) rfl ?_
      have e0 : (c0_pB_j20_0 f) = (32 : Int32) := by simp only [c0_pB_j20_0, if_neg h1]
      rw [e0] at hJ
      exact hJ
  refine hj175 ?_
  show fl_Tq _ 57 29 [some (.inr (.inr (.inl (1, 1)))), none, none] [.inl (c0_pB_j20_0 f)] (c0_moveBus_m f, l) _
  refine fl_Tq.stp (pc' := 30) (lv' := [some (.inr (.inr (.inl (1, 1)))), some (.inl (c0_pB_j20_0 f)), none]) (st' := []) (m' := (c0_moveBus_m f, l)) rfl rfl (fl_bo rfl) rfl ?_
  exact k
theorem c0_pC1 {L : Nat} {xs : Nat → Int32} {f : t2_F} {l : t2_L} {Q : Option fl_V → fl_M → Prop} {so : Int32} (hc : 0 ≤ (f 1 5).toInt ∧ (f 1 5).toInt ≤ 16) (hz : 0 ≤ (f 3 6).toInt ∧ (f 3 6).toInt ≤ 6) (k : fl_Tq (pw_P L xs) 57 34 [some (.inr (.inr (.inl (1, 1)))), some (.inl so), none] [] (c0_letCurrent_m f, l) Q) : fl_Tq (pw_P L xs) 57 30 [some (.inr (.inr (.inl (1, 1)))), some (.inl so), none] [] (f, l) Q := by
  refine fl_Tq.stp (pc' := 31) (lv' := [some (.inr (.inr (.inl (1, 1)))), some (.inl so), none]) (st' := [.inr (.inr (.inl (1, 1)))]) (m' := (f, l)) rfl rfl (fl_bo rfl) rfl ?_
  refine fl_Tq.cal rfl rfl (fl_bo rfl) rfl ?_
  refine c0_letCurrent_q hc hz ?_
  show fl_Tq _ 57 34 [some (.inr (.inr (.inl (1, 1)))), some (.inl so), none] [] (c0_letCurrent_m f, l) _
  exact k
theorem c0_pC2 {L : Nat} {xs : Nat → Int32} {f : t2_F} {l : t2_L} {Q : Option fl_V → fl_M → Prop} {so : Int32} (hc : 0 ≤ (f 1 5).toInt ∧ (f 1 5).toInt ≤ 16) (hk : ∀ i : Nat, (i : Int) < (f 1 5).toInt → t2_cap (f (18 + 4 * i) 0)) (k : fl_Tq (pw_P L xs) 57 38 [some (.inr (.inr (.inl (1, 1)))), some (.inl so), none] [] (c0_passCells_m f, l) Q) : fl_Tq (pw_P L xs) 57 34 [some (.inr (.inr (.inl (1, 1)))), some (.inl so), none] [] (f, l) Q := by
  refine fl_Tq.stp (pc' := 35) (lv' := [some (.inr (.inr (.inl (1, 1)))), some (.inl so), none]) (st' := [.inr (.inr (.inl (1, 1)))]) (m' := (f, l)) rfl rfl (fl_bo rfl) rfl ?_
  refine fl_Tq.cal rfl rfl (fl_bo rfl) rfl ?_
  refine c0_passCells_q hc hk ?_
  show fl_Tq _ 57 38 [some (.inr (.inr (.inl (1, 1)))), some (.inl so), none] [] (c0_passCells_m f, l) _
  exact k
theorem c0_pC3 {L : Nat} {xs : Nat → Int32} {f : t2_F} {l : t2_L} {Q : Option fl_V → fl_M → Prop} {so : Int32} (hc : 0 ≤ (f 1 5).toInt ∧ (f 1 5).toInt ≤ 16) (hk : ∀ i : Nat, (i : Int) < (f 1 5).toInt → t2_cap (f (18 + 4 * i) 0)) (ho : 0 ≤ (f 4 13).toInt ∧ (f 4 13).toInt ≤ 16) (k : fl_Tq (pw_P L xs) 57 42 [some (.inr (.inr (.inl (1, 1)))), some (.inl so), none] [] (c0_balance_m f, l) Q) : fl_Tq (pw_P L xs) 57 38 [some (.inr (.inr (.inl (1, 1)))), some (.inl so), none] [] (f, l) Q := by
  refine fl_Tq.stp (pc' := 39) (lv' := [some (.inr (.inr (.inl (1, 1)))), some (.inl so), none]) (st' := [.inr (.inr (.inl (1, 1)))]) (m' := (f, l)) rfl rfl (fl_bo rfl) rfl ?_
  refine fl_Tq.cal rfl rfl (fl_bo rfl) rfl ?_
  refine c0_balance_q hc hk ho ?_
  show fl_Tq _ 57 42 [some (.inr (.inr (.inl (1, 1)))), some (.inl so), none] [] (c0_balance_m f, l) _
  exact k
theorem c0_pD {L : Nat} {xs : Nat → Int32} {f : t2_F} {l : t2_L} {Q : Option fl_V → fl_M → Prop} {so : Int32}  (k : fl_Tq (pw_P L xs) 57 69 [some (.inr (.inr (.inl (1, 1)))), some (.inl so), none] [] (fl_row f 1 (upd (f 1) 11 ((f 1 11) + (((f 4 6) - (f 1 11)) / (16 : Int32)))), l) Q) : fl_Tq (pw_P L xs) 57 42 [some (.inr (.inr (.inl (1, 1)))), some (.inl so), none] [] (f, l) Q := by
  refine fl_Tq.stp (pc' := 43) (lv' := [some (.inr (.inr (.inl (1, 1)))), some (.inl so), none]) (st' := [.inr (.inr (.inl (1, 1)))]) (m' := (f, l)) rfl rfl (fl_bo rfl) rfl ?_
  refine fl_Tq.stp (pc' := 44) (lv' := [some (.inr (.inr (.inl (1, 1)))), some (.inl so), none]) (st' := [.inr (.inr (.inl (1, 1))), .inr (.inr (.inl (1, 1)))]) (m' := (f, l)) rfl rfl (fl_bo rfl) rfl ?_
  refine fl_Tq.gfV (k := 11) (v := f 1 11) rfl (fl_bo rfl) rfl rfl ?_
  refine fl_Tq.stp (pc' := 48) (lv' := [some (.inr (.inr (.inl (1, 1)))), some (.inl so), none]) (st' := [.inr (.inr (.inl (1, 1))), .inl (f 1 11), .inr (.inr (.inl (1, 1)))]) (m' := (f, l)) rfl rfl (fl_bo rfl) rfl ?_
  refine fl_Tq.stp (pc' := 51) (lv' := [some (.inr (.inr (.inl (1, 1)))), some (.inl so), none]) (st' := [.inr (.inr (.inl (3, 3))), .inl (f 1 11), .inr (.inr (.inl (1, 1)))]) (m' := (f, l)) rfl rfl (fl_bo rfl) rfl ?_
  refine fl_Tq.stp (pc' := 54) (lv' := [some (.inr (.inr (.inl (1, 1)))), some (.inl so), none]) (st' := [.inr (.inr (.inl (4, 4))), .inl (f 1 11), .inr (.inr (.inl (1, 1)))]) (m' := (f, l)) rfl rfl (fl_bo rfl) rfl ?_
  refine fl_Tq.cB (c := (6 : Int32)) rfl (by decide +kernel) (fl_bo rfl) ?_
  refine fl_Tq.ldV (p := 4) (τ := 4) (n := 30) (z := (0, 0, 0)) (k := 6) (v := f 4 6) rfl (fl_bo rfl) rfl (by decide +kernel) (by decide) rfl ?_
  refine fl_Tq.stp (pc' := 58) (lv' := [some (.inr (.inr (.inl (1, 1)))), some (.inl so), none]) (st' := [.inr (.inr (.inl (1, 1))), .inl (f 4 6), .inl (f 1 11), .inr (.inr (.inl (1, 1)))]) (m' := (f, l)) rfl rfl (fl_bo rfl) rfl ?_
  refine fl_Tq.gfV (k := 11) (v := f 1 11) rfl (fl_bo rfl) rfl rfl ?_
  refine fl_Tq.stp (pc' := 62) (lv' := [some (.inr (.inr (.inl (1, 1)))), some (.inl so), none]) (st' := [.inl ((f 4 6) - (f 1 11)), .inl (f 1 11), .inr (.inr (.inl (1, 1)))]) (m' := (f, l)) rfl rfl (fl_bo rfl) rfl ?_
  refine fl_Tq.cB (c := (16 : Int32)) rfl (by decide +kernel) (fl_bo rfl) ?_
  refine fl_Tq.dv rfl (fl_bo rfl) (by decide +kernel) ?_
  refine fl_Tq.stp (pc' := 66) (lv' := [some (.inr (.inr (.inl (1, 1)))), some (.inl so), none]) (st' := [.inl ((f 1 11) + (((f 4 6) - (f 1 11)) / (16 : Int32))), .inr (.inr (.inl (1, 1)))]) (m' := (f, l)) rfl rfl (fl_bo rfl) rfl ?_
  refine fl_Tq.pfV (k := 11) (m' := (fl_row f 1 (upd (f 1) 11 ((f 1 11) + (((f 4 6) - (f 1 11)) / (16 : Int32)))), l)) rfl (fl_bo rfl) rfl (t2_upn rfl) ?_
  exact k
theorem c0_pE {L : Nat} {xs : Nat → Int32} {f : t2_F} {l : t2_L} {Q : Option fl_V → fl_M → Prop} {so : Int32} (hc : 0 ≤ (f 1 5).toInt ∧ (f 1 5).toInt ≤ 16) (k : fl_Tq (pw_P L xs) 57 73 [some (.inr (.inr (.inl (1, 1)))), some (.inl so), none] [] (c0_sMeasure_m f, l) Q) : fl_Tq (pw_P L xs) 57 69 [some (.inr (.inr (.inl (1, 1)))), some (.inl so), none] [] (f, l) Q := by
  refine fl_Tq.stp (pc' := 70) (lv' := [some (.inr (.inr (.inl (1, 1)))), some (.inl so), none]) (st' := [.inr (.inr (.inl (1, 1)))]) (m' := (f, l)) rfl rfl (fl_bo rfl) rfl ?_
  refine fl_Tq.cal rfl rfl (fl_bo rfl) rfl ?_
  refine c0_sMeasure_q hc ?_
  show fl_Tq _ 57 73 [some (.inr (.inr (.inl (1, 1)))), some (.inl so), none] [] (c0_sMeasure_m f, l) _
  exact k
theorem c0_pF {L : Nat} {xs : Nat → Int32} {f : t2_F} {l : t2_L} {Q : Option fl_V → fl_M → Prop} {so : Int32} (hc : 0 ≤ (f 1 5).toInt ∧ (f 1 5).toInt ≤ 16) (hd : 0 ≤ (c0_faultsOfCells_m f 1 5).toInt ∧ (c0_faultsOfCells_m f 1 5).toInt ≤ 16) (hl : c0_faultsOfPack_m (c0_faultsOfCells_m f) 13 0 = (24 : Int32) ∧ (0 ≤ (c0_faultsOfPack_m (c0_faultsOfCells_m f) 13 2).toInt ∧ (c0_faultsOfPack_m (c0_faultsOfCells_m f) 13 2).toInt ≤ 23) ∧ (0 ≤ (c0_faultsOfPack_m (c0_faultsOfCells_m f) 13 3).toInt ∧ (c0_faultsOfPack_m (c0_faultsOfCells_m f) 13 3).toInt ≤ 24)) (k : fl_Tq (pw_P L xs) 57 96 [some (.inr (.inr (.inl (1, 1)))), some (.inl so), some (.inl (c0_latch_v (c0_faultsOfPack_m (c0_faultsOfCells_m f)) ((so ||| (c0_faultsOfCells_v f)) ||| (c0_faultsOfPack_v (c0_faultsOfCells_m f))) ((c0_faultsOfPack_m (c0_faultsOfCells_m f)) 1 6)))] [] (c0_latch_m (c0_faultsOfPack_m (c0_faultsOfCells_m f)) ((so ||| (c0_faultsOfCells_v f)) ||| (c0_faultsOfPack_v (c0_faultsOfCells_m f))) ((c0_faultsOfPack_m (c0_faultsOfCells_m f)) 1 6), l) Q) : fl_Tq (pw_P L xs) 57 73 [some (.inr (.inr (.inl (1, 1)))), some (.inl so), none] [] (f, l) Q := by
  refine fl_Tq.stp (pc' := 74) (lv' := [some (.inr (.inr (.inl (1, 1)))), some (.inl so), none]) (st' := [.inr (.inr (.inl (1, 1)))]) (m' := (f, l)) rfl rfl (fl_bo rfl) rfl ?_
  refine fl_Tq.stp (pc' := 77) (lv' := [some (.inr (.inr (.inl (1, 1)))), some (.inl so), none]) (st' := [.inr (.inr (.inl (10, 10)))]) (m' := (f, l)) rfl rfl (fl_bo rfl) rfl ?_
  refine fl_Tq.stp (pc' := 78) (lv' := [some (.inr (.inr (.inl (1, 1)))), some (.inl so), none]) (st' := [.inl so, .inr (.inr (.inl (10, 10)))]) (m' := (f, l)) rfl rfl (fl_bo rfl) rfl ?_
  refine fl_Tq.stp (pc' := 79) (lv' := [some (.inr (.inr (.inl (1, 1)))), some (.inl so), none]) (st' := [.inr (.inr (.inl (1, 1))), .inl so, .inr (.inr (.inl (10, 10)))]) (m' := (f, l)) rfl rfl (fl_bo rfl) rfl ?_
  refine fl_Tq.cal rfl rfl (fl_bo rfl) rfl ?_
  refine c0_faultsOfCells_q hc ?_
  show fl_Tq _ 57 82 [some (.inr (.inr (.inl (1, 1)))), some (.inl so), none] [.inl (c0_faultsOfCells_v f), .inl so, .inr (.inr (.inl (10, 10)))] (c0_faultsOfCells_m f, l) _
  refine fl_Tq.stp (pc' := 83) (lv' := [some (.inr (.inr (.inl (1, 1)))), some (.inl so), none]) (st' := [.inl (so ||| (c0_faultsOfCells_v f)), .inr (.inr (.inl (10, 10)))]) (m' := (c0_faultsOfCells_m f, l)) rfl rfl (fl_bo rfl) rfl ?_
  refine fl_Tq.stp (pc' := 84) (lv' := [some (.inr (.inr (.inl (1, 1)))), some (.inl so), none]) (st' := [.inr (.inr (.inl (1, 1))), .inl (so ||| (c0_faultsOfCells_v f)), .inr (.inr (.inl (10, 10)))]) (m' := (c0_faultsOfCells_m f, l)) rfl rfl (fl_bo rfl) rfl ?_
  refine fl_Tq.cal rfl rfl (fl_bo rfl) rfl ?_
  refine c0_faultsOfPack_q hd ?_
  show fl_Tq _ 57 87 [some (.inr (.inr (.inl (1, 1)))), some (.inl so), none] [.inl (c0_faultsOfPack_v (c0_faultsOfCells_m f)), .inl (so ||| (c0_faultsOfCells_v f)), .inr (.inr (.inl (10, 10)))] (c0_faultsOfPack_m (c0_faultsOfCells_m f), l) _
  refine fl_Tq.stp (pc' := 88) (lv' := [some (.inr (.inr (.inl (1, 1)))), some (.inl so), none]) (st' := [.inl ((so ||| (c0_faultsOfCells_v f)) ||| (c0_faultsOfPack_v (c0_faultsOfCells_m f))), .inr (.inr (.inl (10, 10)))]) (m' := (c0_faultsOfPack_m (c0_faultsOfCells_m f), l)) rfl rfl (fl_bo rfl) rfl ?_
  refine fl_Tq.stp (pc' := 89) (lv' := [some (.inr (.inr (.inl (1, 1)))), some (.inl so), none]) (st' := [.inr (.inr (.inl (1, 1))), .inl ((so ||| (c0_faultsOfCells_v f)) ||| (c0_faultsOfPack_v (c0_faultsOfCells_m f))), .inr (.inr (.inl (10, 10)))]) (m' := (c0_faultsOfPack_m (c0_faultsOfCells_m f), l)) rfl rfl (fl_bo rfl) rfl ?_
  refine fl_Tq.gfV (k := 6) (v := (c0_faultsOfPack_m (c0_faultsOfCells_m f)) 1 6) rfl (fl_bo rfl) rfl rfl ?_
  refine fl_Tq.cal rfl rfl (fl_bo rfl) rfl ?_
  refine c0_latch_q hl ?_
  show fl_Tq _ 57 95 [some (.inr (.inr (.inl (1, 1)))), some (.inl so), none] [.inl (c0_latch_v (c0_faultsOfPack_m (c0_faultsOfCells_m f)) ((so ||| (c0_faultsOfCells_v f)) ||| (c0_faultsOfPack_v (c0_faultsOfCells_m f))) ((c0_faultsOfPack_m (c0_faultsOfCells_m f)) 1 6))] (c0_latch_m (c0_faultsOfPack_m (c0_faultsOfCells_m f)) ((so ||| (c0_faultsOfCells_v f)) ||| (c0_faultsOfPack_v (c0_faultsOfCells_m f))) ((c0_faultsOfPack_m (c0_faultsOfCells_m f)) 1 6), l) _
  refine fl_Tq.stp (pc' := 96) (lv' := [some (.inr (.inr (.inl (1, 1)))), some (.inl so), some (.inl (c0_latch_v (c0_faultsOfPack_m (c0_faultsOfCells_m f)) ((so ||| (c0_faultsOfCells_v f)) ||| (c0_faultsOfPack_v (c0_faultsOfCells_m f))) ((c0_faultsOfPack_m (c0_faultsOfCells_m f)) 1 6)))]) (st' := []) (m' := (c0_latch_m (c0_faultsOfPack_m (c0_faultsOfCells_m f)) ((so ||| (c0_faultsOfCells_v f)) ||| (c0_faultsOfPack_v (c0_faultsOfCells_m f))) ((c0_faultsOfPack_m (c0_faultsOfCells_m f)) 1 6), l)) rfl rfl (fl_bo rfl) rfl ?_
  exact k
theorem c0_pG {L : Nat} {xs : Nat → Int32} {f : t2_F} {l : t2_L} {Q : Option fl_V → fl_M → Prop} {so mo : Int32}  (k : ((f 10 3).toInt = 0) → fl_Tq (pw_P L xs) 57 111 [some (.inr (.inr (.inl (1, 1)))), some (.inl so), some (.inl mo)] [] (f, l) Q) (k1 : (¬ ((f 10 3).toInt = 0)) → fl_Tq (pw_P L xs) 57 111 [some (.inr (.inr (.inl (1, 1)))), some (.inl so), some (.inl mo)] [] (fl_row f 1 (upd (f 1) 7 (0 : Int32)), l) Q) : fl_Tq (pw_P L xs) 57 96 [some (.inr (.inr (.inl (1, 1)))), some (.inl so), some (.inl mo)] [] (f, l) Q := by
  refine fl_Tq.stp (pc' := 97) (lv' := [some (.inr (.inr (.inl (1, 1)))), some (.inl so), some (.inl mo)]) (st' := [.inr (.inr (.inl (1, 1)))]) (m' := (f, l)) rfl rfl (fl_bo rfl) rfl ?_
  refine fl_Tq.stp (pc' := 100) (lv' := [some (.inr (.inr (.inl (1, 1)))), some (.inl so), some (.inl mo)]) (st' := [.inr (.inr (.inl (10, 10)))]) (m' := (f, l)) rfl rfl (fl_bo rfl) rfl ?_
  refine fl_Tq.gfV (k := 3) (v := f 10 3) rfl (fl_bo rfl) rfl rfl ?_
  by_cases h1 : (f 10 3).toInt = 0
  · refine fl_Tq.zt rfl (fl_bo rfl) (c1_eq_t h1) rfl ?_
    exact k h1
  · refine fl_Tq.zf rfl (fl_bo rfl) (c1_eq_f h1) rfl ?_
    refine fl_Tq.stp (pc' := 107) (lv' := [some (.inr (.inr (.inl (1, 1)))), some (.inl so), some (.inl mo)]) (st' := [.inr (.inr (.inl (1, 1)))]) (m' := (f, l)) rfl rfl (fl_bo rfl) rfl ?_
    refine fl_Tq.cI (c := (0 : Int32)) rfl (by decide +kernel) (fl_bo rfl) ?_
    refine fl_Tq.pfV (k := 7) (m' := (fl_row f 1 (upd (f 1) 7 (0 : Int32)), l)) rfl (fl_bo rfl) rfl (t2_upn rfl) ?_
    exact k1 h1
theorem c0_pH1 {L : Nat} {xs : Nat → Int32} {f : t2_F} {l : t2_L} {Q : Option fl_V → fl_M → Prop} {so mo : Int32} (hc : 0 ≤ (f 1 5).toInt ∧ (f 1 5).toInt ≤ 16) (hkt : ∀ i : Nat, (i : Int) < (f 1 5).toInt → (1 ≤ (f (19 + 4 * i) 2).toInt ∧ (f (19 + 4 * i) 2).toInt ≤ 32) ∧ t2_p32 (f (20 + 4 * i)) ∧ t2_pt (f (18 + 4 * i) 3)) (hlt : f 16 0 = (32 : Int32) ∧ (0 ≤ (f 16 2).toInt ∧ (f 16 2).toInt ≤ 31) ∧ (0 ≤ (f 16 3).toInt ∧ (f 16 3).toInt ≤ 32)) (k : fl_Tq (pw_P L xs) 57 115 [some (.inr (.inr (.inl (1, 1)))), some (.inl so), some (.inl mo)] [] (c0_sKeep_m f, l) Q) : fl_Tq (pw_P L xs) 57 111 [some (.inr (.inr (.inl (1, 1)))), some (.inl so), some (.inl mo)] [] (f, l) Q := by
  refine fl_Tq.stp (pc' := 112) (lv' := [some (.inr (.inr (.inl (1, 1)))), some (.inl so), some (.inl mo)]) (st' := [.inr (.inr (.inl (1, 1)))]) (m' := (f, l)) rfl rfl (fl_bo rfl) rfl ?_
  refine fl_Tq.cal rfl rfl (fl_bo rfl) rfl ?_
  refine c0_sKeep_q hc hkt hlt ?_
  show fl_Tq _ 57 115 [some (.inr (.inr (.inl (1, 1)))), some (.inl so), some (.inl mo)] [] (c0_sKeep_m f, l) _
  exact k
theorem c0_pH2 {L : Nat} {xs : Nat → Int32} {f : t2_F} {l : t2_L} {Q : Option fl_V → fl_M → Prop} {so mo : Int32} (hc : 0 ≤ (f 1 5).toInt ∧ (f 1 5).toInt ≤ 16) (hrn : 0 ≤ (f 3 8).toInt ∧ (f 3 8).toInt ≤ 8) (hru : ∀ k : Nat, k < 8 → 0 ≤ (f 9 ((k * 5) + 3)).toInt ∧ (f 9 ((k * 5) + 3)).toInt ≤ 29) (k : fl_Tq (pw_P L xs) 57 119 [some (.inr (.inr (.inl (1, 1)))), some (.inl so), some (.inl mo)] [] (c0_obeyRules_m f, l) Q) : fl_Tq (pw_P L xs) 57 115 [some (.inr (.inr (.inl (1, 1)))), some (.inl so), some (.inl mo)] [] (f, l) Q := by
  refine fl_Tq.stp (pc' := 116) (lv' := [some (.inr (.inr (.inl (1, 1)))), some (.inl so), some (.inl mo)]) (st' := [.inr (.inr (.inl (1, 1)))]) (m' := (f, l)) rfl rfl (fl_bo rfl) rfl ?_
  refine fl_Tq.cal rfl rfl (fl_bo rfl) rfl ?_
  refine c0_obeyRules_q hc hrn hru ?_
  show fl_Tq _ 57 119 [some (.inr (.inr (.inl (1, 1)))), some (.inl so), some (.inl mo)] [] (c0_obeyRules_m f, l) _
  exact k
theorem c0_pI {L : Nat} {xs : Nat → Int32} {f : t2_F} {l : t2_L} {Q : Option fl_V → fl_M → Prop} {so mo : Int32}  (k : Q (some (.inl mo)) (fl_row f 1 (upd (f 1) 10 (f 1 9)), l)) : fl_Tq (pw_P L xs) 57 119 [some (.inr (.inr (.inl (1, 1)))), some (.inl so), some (.inl mo)] [] (f, l) Q := by
  refine fl_Tq.stp (pc' := 120) (lv' := [some (.inr (.inr (.inl (1, 1)))), some (.inl so), some (.inl mo)]) (st' := [.inr (.inr (.inl (1, 1)))]) (m' := (f, l)) rfl rfl (fl_bo rfl) rfl ?_
  refine fl_Tq.stp (pc' := 121) (lv' := [some (.inr (.inr (.inl (1, 1)))), some (.inl so), some (.inl mo)]) (st' := [.inr (.inr (.inl (1, 1))), .inr (.inr (.inl (1, 1)))]) (m' := (f, l)) rfl rfl (fl_bo rfl) rfl ?_
  refine fl_Tq.gfV (k := 9) (v := f 1 9) rfl (fl_bo rfl) rfl rfl ?_
  refine fl_Tq.pfV (k := 10) (m' := (fl_row f 1 (upd (f 1) 10 (f 1 9)), l)) rfl (fl_bo rfl) rfl (t2_upn rfl) ?_
  refine fl_Tq.stp (pc' := 128) (lv' := [some (.inr (.inr (.inl (1, 1)))), some (.inl so), some (.inl mo)]) (st' := [.inl mo]) (m' := (fl_row f 1 (upd (f 1) 10 (f 1 9)), l)) rfl rfl (fl_bo rfl) rfl ?_
  exact fl_Tq.ret rfl rfl rfl k
theorem c2_pA {L : Nat} {xs : Nat → Int32} {f : t2_F} {l : t2_L} {Q : Option fl_V → fl_M → Prop}   (k : fl_Tq (pw_P L xs) 57 16 [some (.inr (.inr (.inl (49, 181)))), none, none] [] (fl_row f 181 (upd (f 181) 6 (t2_min_v ((f 181 6) + (1 : Int32)) (9999 : Int32))), l) Q) : fl_Tq (pw_P L xs) 57 0 [some (.inr (.inr (.inl (49, 181)))), none, none] [] (f, l) Q := by
  refine fl_Tq.stp (pc' := 1) (lv' := [some (.inr (.inr (.inl (49, 181)))), none, none]) (st' := [.inr (.inr (.inl (49, 181)))]) (m' := (f, l)) rfl rfl (fl_bo rfl) rfl ?_
  refine fl_Tq.stp (pc' := 2) (lv' := [some (.inr (.inr (.inl (49, 181)))), none, none]) (st' := [.inr (.inr (.inl (49, 181))), .inr (.inr (.inl (49, 181)))]) (m' := (f, l)) rfl rfl (fl_bo rfl) rfl ?_
  refine fl_Tq.gfV (k := 6) (v := f 181 6) rfl (fl_bo rfl) rfl rfl ?_
  refine fl_Tq.cI (c := (1 : Int32)) rfl (by decide +kernel) (fl_bo rfl) ?_
  refine fl_Tq.stp (pc' := 7) (lv' := [some (.inr (.inr (.inl (49, 181)))), none, none]) (st' := [.inl ((f 181 6) + (1 : Int32)), .inr (.inr (.inl (49, 181)))]) (m' := (f, l)) rfl rfl (fl_bo rfl) rfl ?_
  refine fl_Tq.cS (c := (9999 : Int32)) rfl (by decide +kernel) (fl_bo rfl) ?_
  refine fl_Tq.cal rfl rfl (fl_bo rfl) rfl ?_
  refine t2_min_q  ?_
  show fl_Tq _ 57 13 [some (.inr (.inr (.inl (49, 181)))), none, none] [.inl (t2_min_v ((f 181 6) + (1 : Int32)) (9999 : Int32)), .inr (.inr (.inl (49, 181)))] (f, l) _
  refine fl_Tq.pfV (k := 6) (m' := (fl_row f 181 (upd (f 181) 6 (t2_min_v ((f 181 6) + (1 : Int32)) (9999 : Int32))), l)) rfl (fl_bo rfl) rfl (t2_upn rfl) ?_
  exact k
noncomputable def c2_pB_j20_0 (f : t2_F)  : Int32 := if (c2_moveBus_v f).toInt = 0 then (0 : Int32) else (32 : Int32)
theorem c2_pB {L : Nat} {xs : Nat → Int32} {f : t2_F} {l : t2_L} {Q : Option fl_V → fl_M → Prop}  (hc : 0 ≤ (f 181 5).toInt ∧ (f 181 5).toInt ≤ 16) (k : fl_Tq (pw_P L xs) 57 30 [some (.inr (.inr (.inl (49, 181)))), some (.inl (c2_pB_j20_0 f)), none] [] (c2_moveBus_m f, l) Q) : fl_Tq (pw_P L xs) 57 16 [some (.inr (.inr (.inl (49, 181)))), none, none] [] (f, l) Q := by
  refine fl_Tq.stp (pc' := 17) (lv' := [some (.inr (.inr (.inl (49, 181)))), none, none]) (st' := [.inr (.inr (.inl (49, 181)))]) (m' := (f, l)) rfl rfl (fl_bo rfl) rfl ?_
  refine fl_Tq.cal rfl rfl (fl_bo rfl) rfl ?_
  refine c2_moveBus_q hc ?_
  show fl_Tq _ 57 20 [some (.inr (.inr (.inl (49, 181)))), none, none] [.inl (c2_moveBus_v f)] (c2_moveBus_m f, l) _
  have hj176 : fl_Tq (pw_P L xs) 57 29 [some (.inr (.inr (.inl (49, 181)))), none, none] [.inl (c2_pB_j20_0 f)] (c2_moveBus_m f, l) Q → fl_Tq (pw_P L xs) 57 20 [some (.inr (.inr (.inl (49, 181)))), none, none] [.inl (c2_moveBus_v f)] (c2_moveBus_m f, l) Q := by
    intro hJ
    by_cases h1 : (c2_moveBus_v f).toInt = 0
    · refine fl_Tq.zt rfl (fl_bo rfl) (c1_eq_t h1) rfl ?_
      refine fl_Tq.cI (c := (0 : Int32)) rfl (by decide +kernel) (fl_bo rfl) ?_
      have e0 : (c2_pB_j20_0 f) = (0 : Int32) := by simp only [c2_pB_j20_0, if_pos h1]
      rw [e0] at hJ
      exact hJ
    · refine fl_Tq.zf rfl (fl_bo rfl) (c1_eq_f h1) rfl ?_
      refine fl_Tq.cB (c := (32 : Int32)) rfl (by decide +kernel) (fl_bo rfl) ?_
      refine fl_Tq.stp (pc' := 29) (lv' := [some (.inr (.inr (.inl (49, 181)))), none, none]) (st' := [.inl (32 : Int32)]) (m' := (c2_moveBus_m f, l)) rfl rfl (fl_bo rfl) rfl ?_
      have e0 : (c2_pB_j20_0 f) = (32 : Int32) := by simp only [c2_pB_j20_0, if_neg h1]
      rw [e0] at hJ
      exact hJ
  refine hj176 ?_
  show fl_Tq _ 57 29 [some (.inr (.inr (.inl (49, 181)))), none, none] [.inl (c2_pB_j20_0 f)] (c2_moveBus_m f, l) _
  refine fl_Tq.stp (pc' := 30) (lv' := [some (.inr (.inr (.inl (49, 181)))), some (.inl (c2_pB_j20_0 f)), none]) (st' := []) (m' := (c2_moveBus_m f, l)) rfl rfl (fl_bo rfl) rfl ?_
  exact k
theorem c2_pC1 {L : Nat} {xs : Nat → Int32} {f : t2_F} {l : t2_L} {Q : Option fl_V → fl_M → Prop} {so : Int32} (hc : 0 ≤ (f 181 5).toInt ∧ (f 181 5).toInt ≤ 16) (hz : 0 ≤ (f 183 6).toInt ∧ (f 183 6).toInt ≤ 6) (k : fl_Tq (pw_P L xs) 57 34 [some (.inr (.inr (.inl (49, 181)))), some (.inl so), none] [] (c2_letCurrent_m f, l) Q) : fl_Tq (pw_P L xs) 57 30 [some (.inr (.inr (.inl (49, 181)))), some (.inl so), none] [] (f, l) Q := by
  refine fl_Tq.stp (pc' := 31) (lv' := [some (.inr (.inr (.inl (49, 181)))), some (.inl so), none]) (st' := [.inr (.inr (.inl (49, 181)))]) (m' := (f, l)) rfl rfl (fl_bo rfl) rfl ?_
  refine fl_Tq.cal rfl rfl (fl_bo rfl) rfl ?_
  refine c2_letCurrent_q hc hz ?_
  show fl_Tq _ 57 34 [some (.inr (.inr (.inl (49, 181)))), some (.inl so), none] [] (c2_letCurrent_m f, l) _
  exact k
theorem c2_pC2 {L : Nat} {xs : Nat → Int32} {f : t2_F} {l : t2_L} {Q : Option fl_V → fl_M → Prop} {so : Int32} (hc : 0 ≤ (f 181 5).toInt ∧ (f 181 5).toInt ≤ 16) (hk : ∀ i : Nat, (i : Int) < (f 181 5).toInt → t2_cap (f (198 + 4 * i) 0)) (k : fl_Tq (pw_P L xs) 57 38 [some (.inr (.inr (.inl (49, 181)))), some (.inl so), none] [] (c2_passCells_m f, l) Q) : fl_Tq (pw_P L xs) 57 34 [some (.inr (.inr (.inl (49, 181)))), some (.inl so), none] [] (f, l) Q := by
  refine fl_Tq.stp (pc' := 35) (lv' := [some (.inr (.inr (.inl (49, 181)))), some (.inl so), none]) (st' := [.inr (.inr (.inl (49, 181)))]) (m' := (f, l)) rfl rfl (fl_bo rfl) rfl ?_
  refine fl_Tq.cal rfl rfl (fl_bo rfl) rfl ?_
  refine c2_passCells_q hc hk ?_
  show fl_Tq _ 57 38 [some (.inr (.inr (.inl (49, 181)))), some (.inl so), none] [] (c2_passCells_m f, l) _
  exact k
theorem c2_pC3 {L : Nat} {xs : Nat → Int32} {f : t2_F} {l : t2_L} {Q : Option fl_V → fl_M → Prop} {so : Int32} (hc : 0 ≤ (f 181 5).toInt ∧ (f 181 5).toInt ≤ 16) (hk : ∀ i : Nat, (i : Int) < (f 181 5).toInt → t2_cap (f (198 + 4 * i) 0)) (ho : 0 ≤ (f 184 13).toInt ∧ (f 184 13).toInt ≤ 16) (k : fl_Tq (pw_P L xs) 57 42 [some (.inr (.inr (.inl (49, 181)))), some (.inl so), none] [] (c2_balance_m f, l) Q) : fl_Tq (pw_P L xs) 57 38 [some (.inr (.inr (.inl (49, 181)))), some (.inl so), none] [] (f, l) Q := by
  refine fl_Tq.stp (pc' := 39) (lv' := [some (.inr (.inr (.inl (49, 181)))), some (.inl so), none]) (st' := [.inr (.inr (.inl (49, 181)))]) (m' := (f, l)) rfl rfl (fl_bo rfl) rfl ?_
  refine fl_Tq.cal rfl rfl (fl_bo rfl) rfl ?_
  refine c2_balance_q hc hk ho ?_
  show fl_Tq _ 57 42 [some (.inr (.inr (.inl (49, 181)))), some (.inl so), none] [] (c2_balance_m f, l) _
  exact k
theorem c2_pD {L : Nat} {xs : Nat → Int32} {f : t2_F} {l : t2_L} {Q : Option fl_V → fl_M → Prop} {so : Int32}  (k : fl_Tq (pw_P L xs) 57 69 [some (.inr (.inr (.inl (49, 181)))), some (.inl so), none] [] (fl_row f 181 (upd (f 181) 11 ((f 181 11) + (((f 184 6) - (f 181 11)) / (16 : Int32)))), l) Q) : fl_Tq (pw_P L xs) 57 42 [some (.inr (.inr (.inl (49, 181)))), some (.inl so), none] [] (f, l) Q := by
  refine fl_Tq.stp (pc' := 43) (lv' := [some (.inr (.inr (.inl (49, 181)))), some (.inl so), none]) (st' := [.inr (.inr (.inl (49, 181)))]) (m' := (f, l)) rfl rfl (fl_bo rfl) rfl ?_
  refine fl_Tq.stp (pc' := 44) (lv' := [some (.inr (.inr (.inl (49, 181)))), some (.inl so), none]) (st' := [.inr (.inr (.inl (49, 181))), .inr (.inr (.inl (49, 181)))]) (m' := (f, l)) rfl rfl (fl_bo rfl) rfl ?_
  refine fl_Tq.gfV (k := 11) (v := f 181 11) rfl (fl_bo rfl) rfl rfl ?_
  refine fl_Tq.stp (pc' := 48) (lv' := [some (.inr (.inr (.inl (49, 181)))), some (.inl so), none]) (st' := [.inr (.inr (.inl (49, 181))), .inl (f 181 11), .inr (.inr (.inl (49, 181)))]) (m' := (f, l)) rfl rfl (fl_bo rfl) rfl ?_
  refine fl_Tq.stp (pc' := 51) (lv' := [some (.inr (.inr (.inl (49, 181)))), some (.inl so), none]) (st' := [.inr (.inr (.inl (51, 183))), .inl (f 181 11), .inr (.inr (.inl (49, 181)))]) (m' := (f, l)) rfl rfl (fl_bo rfl) rfl ?_
  refine fl_Tq.stp (pc' := 54) (lv' := [some (.inr (.inr (.inl (49, 181)))), some (.inl so), none]) (st' := [.inr (.inr (.inl (52, 184))), .inl (f 181 11), .inr (.inr (.inl (49, 181)))]) (m' := (f, l)) rfl rfl (fl_bo rfl) rfl ?_
  refine fl_Tq.cB (c := (6 : Int32)) rfl (by decide +kernel) (fl_bo rfl) ?_
  refine fl_Tq.ldV (p := 184) (τ := 52) (n := 30) (z := (0, 0, 0)) (k := 6) (v := f 184 6) rfl (fl_bo rfl) rfl (by decide +kernel) (by decide) rfl ?_
  refine fl_Tq.stp (pc' := 58) (lv' := [some (.inr (.inr (.inl (49, 181)))), some (.inl so), none]) (st' := [.inr (.inr (.inl (49, 181))), .inl (f 184 6), .inl (f 181 11), .inr (.inr (.inl (49, 181)))]) (m' := (f, l)) rfl rfl (fl_bo rfl) rfl ?_
  refine fl_Tq.gfV (k := 11) (v := f 181 11) rfl (fl_bo rfl) rfl rfl ?_
  refine fl_Tq.stp (pc' := 62) (lv' := [some (.inr (.inr (.inl (49, 181)))), some (.inl so), none]) (st' := [.inl ((f 184 6) - (f 181 11)), .inl (f 181 11), .inr (.inr (.inl (49, 181)))]) (m' := (f, l)) rfl rfl (fl_bo rfl) rfl ?_
  refine fl_Tq.cB (c := (16 : Int32)) rfl (by decide +kernel) (fl_bo rfl) ?_
  refine fl_Tq.dv rfl (fl_bo rfl) (by decide +kernel) ?_
  refine fl_Tq.stp (pc' := 66) (lv' := [some (.inr (.inr (.inl (49, 181)))), some (.inl so), none]) (st' := [.inl ((f 181 11) + (((f 184 6) - (f 181 11)) / (16 : Int32))), .inr (.inr (.inl (49, 181)))]) (m' := (f, l)) rfl rfl (fl_bo rfl) rfl ?_
  refine fl_Tq.pfV (k := 11) (m' := (fl_row f 181 (upd (f 181) 11 ((f 181 11) + (((f 184 6) - (f 181 11)) / (16 : Int32)))), l)) rfl (fl_bo rfl) rfl (t2_upn rfl) ?_
  exact k
theorem c2_pE {L : Nat} {xs : Nat → Int32} {f : t2_F} {l : t2_L} {Q : Option fl_V → fl_M → Prop} {so : Int32} (hc : 0 ≤ (f 181 5).toInt ∧ (f 181 5).toInt ≤ 16) (k : fl_Tq (pw_P L xs) 57 73 [some (.inr (.inr (.inl (49, 181)))), some (.inl so), none] [] (c2_sMeasure_m f, l) Q) : fl_Tq (pw_P L xs) 57 69 [some (.inr (.inr (.inl (49, 181)))), some (.inl so), none] [] (f, l) Q := by
  refine fl_Tq.stp (pc' := 70) (lv' := [some (.inr (.inr (.inl (49, 181)))), some (.inl so), none]) (st' := [.inr (.inr (.inl (49, 181)))]) (m' := (f, l)) rfl rfl (fl_bo rfl) rfl ?_
  refine fl_Tq.cal rfl rfl (fl_bo rfl) rfl ?_
  refine c2_sMeasure_q hc ?_
  show fl_Tq _ 57 73 [some (.inr (.inr (.inl (49, 181)))), some (.inl so), none] [] (c2_sMeasure_m f, l) _
  exact k
theorem c2_pF {L : Nat} {xs : Nat → Int32} {f : t2_F} {l : t2_L} {Q : Option fl_V → fl_M → Prop} {so : Int32} (hc : 0 ≤ (f 181 5).toInt ∧ (f 181 5).toInt ≤ 16) (hd : 0 ≤ (c2_faultsOfCells_m f 181 5).toInt ∧ (c2_faultsOfCells_m f 181 5).toInt ≤ 16) (hl : c2_faultsOfPack_m (c2_faultsOfCells_m f) 193 0 = (24 : Int32) ∧ (0 ≤ (c2_faultsOfPack_m (c2_faultsOfCells_m f) 193 2).toInt ∧ (c2_faultsOfPack_m (c2_faultsOfCells_m f) 193 2).toInt ≤ 23) ∧ (0 ≤ (c2_faultsOfPack_m (c2_faultsOfCells_m f) 193 3).toInt ∧ (c2_faultsOfPack_m (c2_faultsOfCells_m f) 193 3).toInt ≤ 24)) (k : fl_Tq (pw_P L xs) 57 96 [some (.inr (.inr (.inl (49, 181)))), some (.inl so), some (.inl (c2_latch_v (c2_faultsOfPack_m (c2_faultsOfCells_m f)) ((so ||| (c2_faultsOfCells_v f)) ||| (c2_faultsOfPack_v (c2_faultsOfCells_m f))) ((c2_faultsOfPack_m (c2_faultsOfCells_m f)) 181 6)))] [] (c2_latch_m (c2_faultsOfPack_m (c2_faultsOfCells_m f)) ((so ||| (c2_faultsOfCells_v f)) ||| (c2_faultsOfPack_v (c2_faultsOfCells_m f))) ((c2_faultsOfPack_m (c2_faultsOfCells_m f)) 181 6), l) Q) : fl_Tq (pw_P L xs) 57 73 [some (.inr (.inr (.inl (49, 181)))), some (.inl so), none] [] (f, l) Q := by
  refine fl_Tq.stp (pc' := 74) (lv' := [some (.inr (.inr (.inl (49, 181)))), some (.inl so), none]) (st' := [.inr (.inr (.inl (49, 181)))]) (m' := (f, l)) rfl rfl (fl_bo rfl) rfl ?_
  refine fl_Tq.stp (pc' := 77) (lv' := [some (.inr (.inr (.inl (49, 181)))), some (.inl so), none]) (st' := [.inr (.inr (.inl (58, 190)))]) (m' := (f, l)) rfl rfl (fl_bo rfl) rfl ?_
  refine fl_Tq.stp (pc' := 78) (lv' := [some (.inr (.inr (.inl (49, 181)))), some (.inl so), none]) (st' := [.inl so, .inr (.inr (.inl (58, 190)))]) (m' := (f, l)) rfl rfl (fl_bo rfl) rfl ?_
  refine fl_Tq.stp (pc' := 79) (lv' := [some (.inr (.inr (.inl (49, 181)))), some (.inl so), none]) (st' := [.inr (.inr (.inl (49, 181))), .inl so, .inr (.inr (.inl (58, 190)))]) (m' := (f, l)) rfl rfl (fl_bo rfl) rfl ?_
  refine fl_Tq.cal rfl rfl (fl_bo rfl) rfl ?_
  refine c2_faultsOfCells_q hc ?_
  show fl_Tq _ 57 82 [some (.inr (.inr (.inl (49, 181)))), some (.inl so), none] [.inl (c2_faultsOfCells_v f), .inl so, .inr (.inr (.inl (58, 190)))] (c2_faultsOfCells_m f, l) _
  refine fl_Tq.stp (pc' := 83) (lv' := [some (.inr (.inr (.inl (49, 181)))), some (.inl so), none]) (st' := [.inl (so ||| (c2_faultsOfCells_v f)), .inr (.inr (.inl (58, 190)))]) (m' := (c2_faultsOfCells_m f, l)) rfl rfl (fl_bo rfl) rfl ?_
  refine fl_Tq.stp (pc' := 84) (lv' := [some (.inr (.inr (.inl (49, 181)))), some (.inl so), none]) (st' := [.inr (.inr (.inl (49, 181))), .inl (so ||| (c2_faultsOfCells_v f)), .inr (.inr (.inl (58, 190)))]) (m' := (c2_faultsOfCells_m f, l)) rfl rfl (fl_bo rfl) rfl ?_
  refine fl_Tq.cal rfl rfl (fl_bo rfl) rfl ?_
  refine c2_faultsOfPack_q hd ?_
  show fl_Tq _ 57 87 [some (.inr (.inr (.inl (49, 181)))), some (.inl so), none] [.inl (c2_faultsOfPack_v (c2_faultsOfCells_m f)), .inl (so ||| (c2_faultsOfCells_v f)), .inr (.inr (.inl (58, 190)))] (c2_faultsOfPack_m (c2_faultsOfCells_m f), l) _
  refine fl_Tq.stp (pc' := 88) (lv' := [some (.inr (.inr (.inl (49, 181)))), some (.inl so), none]) (st' := [.inl ((so ||| (c2_faultsOfCells_v f)) ||| (c2_faultsOfPack_v (c2_faultsOfCells_m f))), .inr (.inr (.inl (58, 190)))]) (m' := (c2_faultsOfPack_m (c2_faultsOfCells_m f), l)) rfl rfl (fl_bo rfl) rfl ?_
  refine fl_Tq.stp (pc' := 89) (lv' := [some (.inr (.inr (.inl (49, 181)))), some (.inl so), none]) (st' := [.inr (.inr (.inl (49, 181))), .inl ((so ||| (c2_faultsOfCells_v f)) ||| (c2_faultsOfPack_v (c2_faultsOfCells_m f))), .inr (.inr (.inl (58, 190)))]) (m' := (c2_faultsOfPack_m (c2_faultsOfCells_m f), l)) rfl rfl (fl_bo rfl) rfl ?_
  refine fl_Tq.gfV (k := 6) (v := (c2_faultsOfPack_m (c2_faultsOfCells_m f)) 181 6) rfl (fl_bo rfl) rfl rfl ?_
  refine fl_Tq.cal rfl rfl (fl_bo rfl) rfl ?_
  refine c2_latch_q hl ?_
  show fl_Tq _ 57 95 [some (.inr (.inr (.inl (49, 181)))), some (.inl so), none] [.inl (c2_latch_v (c2_faultsOfPack_m (c2_faultsOfCells_m f)) ((so ||| (c2_faultsOfCells_v f)) ||| (c2_faultsOfPack_v (c2_faultsOfCells_m f))) ((c2_faultsOfPack_m (c2_faultsOfCells_m f)) 181 6))] (c2_latch_m (c2_faultsOfPack_m (c2_faultsOfCells_m f)) ((so ||| (c2_faultsOfCells_v f)) ||| (c2_faultsOfPack_v (c2_faultsOfCells_m f))) ((c2_faultsOfPack_m (c2_faultsOfCells_m f)) 181 6), l) _
  refine fl_Tq.stp (pc' := 96) (lv' := [some (.inr (.inr (.inl (49, 181)))), some (.inl so), some (.inl (c2_latch_v (c2_faultsOfPack_m (c2_faultsOfCells_m f)) ((so ||| (c2_faultsOfCells_v f)) ||| (c2_faultsOfPack_v (c2_faultsOfCells_m f))) ((c2_faultsOfPack_m (c2_faultsOfCells_m f)) 181 6)))]) (st' := []) (m' := (c2_latch_m (c2_faultsOfPack_m (c2_faultsOfCells_m f)) ((so ||| (c2_faultsOfCells_v f)) ||| (c2_faultsOfPack_v (c2_faultsOfCells_m f))) ((c2_faultsOfPack_m (c2_faultsOfCells_m f)) 181 6), l)) rfl rfl (fl_bo rfl) rfl ?_
  exact k
theorem c2_pG {L : Nat} {xs : Nat → Int32} {f : t2_F} {l : t2_L} {Q : Option fl_V → fl_M → Prop} {so mo : Int32}  (k : ((f 190 3).toInt = 0) → fl_Tq (pw_P L xs) 57 111 [some (.inr (.inr (.inl (49, 181)))), some (.inl so), some (.inl mo)] [] (f, l) Q) (k1 : (¬ ((f 190 3).toInt = 0)) → fl_Tq (pw_P L xs) 57 111 [some (.inr (.inr (.inl (49, 181)))), some (.inl so), some (.inl mo)] [] (fl_row f 181 (upd (f 181) 7 (0 : Int32)), l) Q) : fl_Tq (pw_P L xs) 57 96 [some (.inr (.inr (.inl (49, 181)))), some (.inl so), some (.inl mo)] [] (f, l) Q := by
  refine fl_Tq.stp (pc' := 97) (lv' := [some (.inr (.inr (.inl (49, 181)))), some (.inl so), some (.inl mo)]) (st' := [.inr (.inr (.inl (49, 181)))]) (m' := (f, l)) rfl rfl (fl_bo rfl) rfl ?_
  refine fl_Tq.stp (pc' := 100) (lv' := [some (.inr (.inr (.inl (49, 181)))), some (.inl so), some (.inl mo)]) (st' := [.inr (.inr (.inl (58, 190)))]) (m' := (f, l)) rfl rfl (fl_bo rfl) rfl ?_
  refine fl_Tq.gfV (k := 3) (v := f 190 3) rfl (fl_bo rfl) rfl rfl ?_
  by_cases h1 : (f 190 3).toInt = 0
  · refine fl_Tq.zt rfl (fl_bo rfl) (c1_eq_t h1) rfl ?_
    exact k h1
  · refine fl_Tq.zf rfl (fl_bo rfl) (c1_eq_f h1) rfl ?_
    refine fl_Tq.stp (pc' := 107) (lv' := [some (.inr (.inr (.inl (49, 181)))), some (.inl so), some (.inl mo)]) (st' := [.inr (.inr (.inl (49, 181)))]) (m' := (f, l)) rfl rfl (fl_bo rfl) rfl ?_
    refine fl_Tq.cI (c := (0 : Int32)) rfl (by decide +kernel) (fl_bo rfl) ?_
    refine fl_Tq.pfV (k := 7) (m' := (fl_row f 181 (upd (f 181) 7 (0 : Int32)), l)) rfl (fl_bo rfl) rfl (t2_upn rfl) ?_
    exact k1 h1
theorem c2_pH1 {L : Nat} {xs : Nat → Int32} {f : t2_F} {l : t2_L} {Q : Option fl_V → fl_M → Prop} {so mo : Int32} (hc : 0 ≤ (f 181 5).toInt ∧ (f 181 5).toInt ≤ 16) (hkt : ∀ i : Nat, (i : Int) < (f 181 5).toInt → (1 ≤ (f (199 + 4 * i) 2).toInt ∧ (f (199 + 4 * i) 2).toInt ≤ 32) ∧ t2_p32 (f (200 + 4 * i)) ∧ t2_pt (f (198 + 4 * i) 3)) (hlt : f 196 0 = (32 : Int32) ∧ (0 ≤ (f 196 2).toInt ∧ (f 196 2).toInt ≤ 31) ∧ (0 ≤ (f 196 3).toInt ∧ (f 196 3).toInt ≤ 32)) (k : fl_Tq (pw_P L xs) 57 115 [some (.inr (.inr (.inl (49, 181)))), some (.inl so), some (.inl mo)] [] (c2_sKeep_m f, l) Q) : fl_Tq (pw_P L xs) 57 111 [some (.inr (.inr (.inl (49, 181)))), some (.inl so), some (.inl mo)] [] (f, l) Q := by
  refine fl_Tq.stp (pc' := 112) (lv' := [some (.inr (.inr (.inl (49, 181)))), some (.inl so), some (.inl mo)]) (st' := [.inr (.inr (.inl (49, 181)))]) (m' := (f, l)) rfl rfl (fl_bo rfl) rfl ?_
  refine fl_Tq.cal rfl rfl (fl_bo rfl) rfl ?_
  refine c2_sKeep_q hc hkt hlt ?_
  show fl_Tq _ 57 115 [some (.inr (.inr (.inl (49, 181)))), some (.inl so), some (.inl mo)] [] (c2_sKeep_m f, l) _
  exact k
theorem c2_pH2 {L : Nat} {xs : Nat → Int32} {f : t2_F} {l : t2_L} {Q : Option fl_V → fl_M → Prop} {so mo : Int32} (hc : 0 ≤ (f 181 5).toInt ∧ (f 181 5).toInt ≤ 16) (hrn : 0 ≤ (f 183 8).toInt ∧ (f 183 8).toInt ≤ 8) (hru : ∀ k : Nat, k < 8 → 0 ≤ (f 189 ((k * 5) + 3)).toInt ∧ (f 189 ((k * 5) + 3)).toInt ≤ 29) (k : fl_Tq (pw_P L xs) 57 119 [some (.inr (.inr (.inl (49, 181)))), some (.inl so), some (.inl mo)] [] (c2_obeyRules_m f, l) Q) : fl_Tq (pw_P L xs) 57 115 [some (.inr (.inr (.inl (49, 181)))), some (.inl so), some (.inl mo)] [] (f, l) Q := by
  refine fl_Tq.stp (pc' := 116) (lv' := [some (.inr (.inr (.inl (49, 181)))), some (.inl so), some (.inl mo)]) (st' := [.inr (.inr (.inl (49, 181)))]) (m' := (f, l)) rfl rfl (fl_bo rfl) rfl ?_
  refine fl_Tq.cal rfl rfl (fl_bo rfl) rfl ?_
  refine c2_obeyRules_q hc hrn hru ?_
  show fl_Tq _ 57 119 [some (.inr (.inr (.inl (49, 181)))), some (.inl so), some (.inl mo)] [] (c2_obeyRules_m f, l) _
  exact k
theorem c2_pI {L : Nat} {xs : Nat → Int32} {f : t2_F} {l : t2_L} {Q : Option fl_V → fl_M → Prop} {so mo : Int32}  (k : Q (some (.inl mo)) (fl_row f 181 (upd (f 181) 10 (f 181 9)), l)) : fl_Tq (pw_P L xs) 57 119 [some (.inr (.inr (.inl (49, 181)))), some (.inl so), some (.inl mo)] [] (f, l) Q := by
  refine fl_Tq.stp (pc' := 120) (lv' := [some (.inr (.inr (.inl (49, 181)))), some (.inl so), some (.inl mo)]) (st' := [.inr (.inr (.inl (49, 181)))]) (m' := (f, l)) rfl rfl (fl_bo rfl) rfl ?_
  refine fl_Tq.stp (pc' := 121) (lv' := [some (.inr (.inr (.inl (49, 181)))), some (.inl so), some (.inl mo)]) (st' := [.inr (.inr (.inl (49, 181))), .inr (.inr (.inl (49, 181)))]) (m' := (f, l)) rfl rfl (fl_bo rfl) rfl ?_
  refine fl_Tq.gfV (k := 9) (v := f 181 9) rfl (fl_bo rfl) rfl rfl ?_
  refine fl_Tq.pfV (k := 10) (m' := (fl_row f 181 (upd (f 181) 10 (f 181 9)), l)) rfl (fl_bo rfl) rfl (t2_upn rfl) ?_
  refine fl_Tq.stp (pc' := 128) (lv' := [some (.inr (.inr (.inl (49, 181)))), some (.inl so), some (.inl mo)]) (st' := [.inl mo]) (m' := (fl_row f 181 (upd (f 181) 10 (f 181 9)), l)) rfl rfl (fl_bo rfl) rfl ?_
  exact fl_Tq.ret rfl rfl rfl k
theorem r_pA {L : Nat} {xs : Nat → Int32} {f : t2_F} {l : t2_L} {Q : Option fl_V → fl_M → Prop}   (k : fl_Tq (pw_P L xs) 237 11 [some (.inr (.inr (.inl (76, 277)))), none] [] (fl_row f 280 (upd (f 280) 7 ((f 280 7) + (1 : Int32))), l) Q) : fl_Tq (pw_P L xs) 237 0 [some (.inr (.inr (.inl (76, 277)))), none] [] (f, l) Q := by
  refine fl_Tq.stp (pc' := 1) (lv' := [some (.inr (.inr (.inl (76, 277)))), none]) (st' := [.inr (.inr (.inl (76, 277)))]) (m' := (f, l)) rfl rfl (fl_bo rfl) rfl ?_
  refine fl_Tq.stp (pc' := 4) (lv' := [some (.inr (.inr (.inl (76, 277)))), none]) (st' := [.inr (.inr (.inl (79, 280)))]) (m' := (f, l)) rfl rfl (fl_bo rfl) rfl ?_
  refine fl_Tq.cB (c := (7 : Int32)) rfl (by decide +kernel) (fl_bo rfl) ?_
  refine fl_Tq.stp (pc' := 7) (lv' := [some (.inr (.inr (.inl (76, 277)))), none]) (st' := [.inl (7 : Int32), .inr (.inr (.inl (79, 280))), .inl (7 : Int32), .inr (.inr (.inl (79, 280)))]) (m' := (f, l)) rfl rfl (fl_bo rfl) rfl ?_
  refine fl_Tq.ldV (p := 280) (τ := 79) (n := 29780) (z := (0, 0, 0)) (k := 7) (v := f 280 7) rfl (fl_bo rfl) rfl (by decide +kernel) (by decide) rfl ?_
  refine fl_Tq.cI (c := (1 : Int32)) rfl (by decide +kernel) (fl_bo rfl) ?_
  refine fl_Tq.stp (pc' := 10) (lv' := [some (.inr (.inr (.inl (76, 277)))), none]) (st' := [.inl ((f 280 7) + (1 : Int32)), .inl (7 : Int32), .inr (.inr (.inl (79, 280)))]) (m' := (f, l)) rfl rfl (fl_bo rfl) rfl ?_
  refine fl_Tq.svV (p := 280) (τ := 79) (n := 29780) (z := (0, 0, 0)) (k := 7) (m' := (fl_row f 280 (upd (f 280) 7 ((f 280 7) + (1 : Int32))), l)) rfl (fl_bo rfl) rfl (by decide +kernel) (by decide) (t2_upn rfl) ?_
  exact k
theorem r_pB1 {L : Nat} {xs : Nat → Int32} {f : t2_F} {l : t2_L} {Q : Option fl_V → fl_M → Prop}  (hn : 0 ≤ (f 280 2).toInt ∧ (f 280 2).toInt ≤ 16) (hr : t2_RS f) (hk : ∀ C : Nat, (C : Int) < (f 280 2).toInt → t2_ck f C) (k : fl_Tq (pw_P L xs) 237 15 [some (.inr (.inr (.inl (76, 277)))), none] [] (r_goBus_m f, l) Q) : fl_Tq (pw_P L xs) 237 11 [some (.inr (.inr (.inl (76, 277)))), none] [] (f, l) Q := by
  refine fl_Tq.stp (pc' := 12) (lv' := [some (.inr (.inr (.inl (76, 277)))), none]) (st' := [.inr (.inr (.inl (76, 277)))]) (m' := (f, l)) rfl rfl (fl_bo rfl) rfl ?_
  refine fl_Tq.cal rfl rfl (fl_bo rfl) rfl ?_
  refine r_goBus_q hn hr hk ?_
  show fl_Tq _ 237 15 [some (.inr (.inr (.inl (76, 277)))), none] [] (r_goBus_m f, l) _
  exact k
theorem r_pB2 {L : Nat} {xs : Nat → Int32} {f : t2_F} {l : t2_L} {Q : Option fl_V → fl_M → Prop}  (hn : 0 ≤ (f 280 2).toInt ∧ (f 280 2).toInt ≤ 16) (hr : t2_RS f) (hk : ∀ C : Nat, (C : Int) < (f 280 2).toInt → t2_ck f C) (hz : 0 ≤ (f 280 17).toInt ∧ (f 280 17).toInt ≤ 6) (k : fl_Tq (pw_P L xs) 237 19 [some (.inr (.inr (.inl (76, 277)))), none] [] (r_goCurrent_m f, l) Q) : fl_Tq (pw_P L xs) 237 15 [some (.inr (.inr (.inl (76, 277)))), none] [] (f, l) Q := by
  refine fl_Tq.stp (pc' := 16) (lv' := [some (.inr (.inr (.inl (76, 277)))), none]) (st' := [.inr (.inr (.inl (76, 277)))]) (m' := (f, l)) rfl rfl (fl_bo rfl) rfl ?_
  refine fl_Tq.cal rfl rfl (fl_bo rfl) rfl ?_
  refine r_goCurrent_q hn hr hk hz ?_
  show fl_Tq _ 237 19 [some (.inr (.inr (.inl (76, 277)))), none] [] (r_goCurrent_m f, l) _
  exact k
theorem r_pB3 {L : Nat} {xs : Nat → Int32} {f : t2_F} {l : t2_L} {Q : Option fl_V → fl_M → Prop}  (hn : 0 ≤ (f 280 2).toInt ∧ (f 280 2).toInt ≤ 16) (hb : 0 ≤ ((3600 : Int32) * (f 280 58)).toInt) (k : fl_Tq (pw_P L xs) 237 23 [some (.inr (.inr (.inl (76, 277)))), none] [] (r_goCells_m f, l) Q) : fl_Tq (pw_P L xs) 237 19 [some (.inr (.inr (.inl (76, 277)))), none] [] (f, l) Q := by
  refine fl_Tq.stp (pc' := 20) (lv' := [some (.inr (.inr (.inl (76, 277)))), none]) (st' := [.inr (.inr (.inl (76, 277)))]) (m' := (f, l)) rfl rfl (fl_bo rfl) rfl ?_
  refine fl_Tq.cal rfl rfl (fl_bo rfl) rfl ?_
  refine r_goCells_q hn hb ?_
  show fl_Tq _ 237 23 [some (.inr (.inr (.inl (76, 277)))), none] [] (r_goCells_m f, l) _
  exact k
theorem r_pB4 {L : Nat} {xs : Nat → Int32} {f : t2_F} {l : t2_L} {Q : Option fl_V → fl_M → Prop}  (hn : 0 ≤ (f 280 2).toInt ∧ (f 280 2).toInt ≤ 16) (hk : ∀ C : Nat, (C : Int) < (f 280 2).toInt → t2_ck f C) (ho : 0 ≤ (f 280 47).toInt ∧ (f 280 47).toInt ≤ 16) (k : fl_Tq (pw_P L xs) 237 27 [some (.inr (.inr (.inl (76, 277)))), none] [] (r_goBalance_m f, l) Q) : fl_Tq (pw_P L xs) 237 23 [some (.inr (.inr (.inl (76, 277)))), none] [] (f, l) Q := by
  refine fl_Tq.stp (pc' := 24) (lv' := [some (.inr (.inr (.inl (76, 277)))), none]) (st' := [.inr (.inr (.inl (76, 277)))]) (m' := (f, l)) rfl rfl (fl_bo rfl) rfl ?_
  refine fl_Tq.cal rfl rfl (fl_bo rfl) rfl ?_
  refine r_goBalance_q hn hk ho ?_
  show fl_Tq _ 237 27 [some (.inr (.inr (.inl (76, 277)))), none] [] (r_goBalance_m f, l) _
  exact k
theorem r_pC {L : Nat} {xs : Nat → Int32} {f : t2_F} {l : t2_L} {Q : Option fl_V → fl_M → Prop}   (k : fl_Tq (pw_P L xs) 237 54 [some (.inr (.inr (.inl (76, 277)))), none] [] (fl_row f 280 (upd (f 280) 8 ((f 280 8) + (((f 280 40) - (f 280 8)) / (16 : Int32)))), l) Q) : fl_Tq (pw_P L xs) 237 27 [some (.inr (.inr (.inl (76, 277)))), none] [] (f, l) Q := by
  refine fl_Tq.stp (pc' := 28) (lv' := [some (.inr (.inr (.inl (76, 277)))), none]) (st' := [.inr (.inr (.inl (76, 277)))]) (m' := (f, l)) rfl rfl (fl_bo rfl) rfl ?_
  refine fl_Tq.stp (pc' := 31) (lv' := [some (.inr (.inr (.inl (76, 277)))), none]) (st' := [.inr (.inr (.inl (79, 280)))]) (m' := (f, l)) rfl rfl (fl_bo rfl) rfl ?_
  refine fl_Tq.cB (c := (8 : Int32)) rfl (by decide +kernel) (fl_bo rfl) ?_
  refine fl_Tq.stp (pc' := 34) (lv' := [some (.inr (.inr (.inl (76, 277)))), none]) (st' := [.inl (8 : Int32), .inr (.inr (.inl (79, 280))), .inl (8 : Int32), .inr (.inr (.inl (79, 280)))]) (m' := (f, l)) rfl rfl (fl_bo rfl) rfl ?_
  refine fl_Tq.ldV (p := 280) (τ := 79) (n := 29780) (z := (0, 0, 0)) (k := 8) (v := f 280 8) rfl (fl_bo rfl) rfl (by decide +kernel) (by decide) rfl ?_
  refine fl_Tq.stp (pc' := 36) (lv' := [some (.inr (.inr (.inl (76, 277)))), none]) (st' := [.inr (.inr (.inl (76, 277))), .inl (f 280 8), .inl (8 : Int32), .inr (.inr (.inl (79, 280)))]) (m' := (f, l)) rfl rfl (fl_bo rfl) rfl ?_
  refine fl_Tq.cB (c := (6 : Int32)) rfl (by decide +kernel) (fl_bo rfl) ?_
  refine fl_Tq.cal rfl rfl (fl_bo rfl) rfl ?_
  refine t2_its (W := 6) (v := f 280 40) (by decide +kernel) (by decide) rfl ?_
  show fl_Tq _ 237 41 [some (.inr (.inr (.inl (76, 277)))), none] [.inl (f 280 40), .inl (f 280 8), .inl (8 : Int32), .inr (.inr (.inl (79, 280)))] (f, l) _
  refine fl_Tq.stp (pc' := 42) (lv' := [some (.inr (.inr (.inl (76, 277)))), none]) (st' := [.inr (.inr (.inl (76, 277))), .inl (f 280 40), .inl (f 280 8), .inl (8 : Int32), .inr (.inr (.inl (79, 280)))]) (m' := (f, l)) rfl rfl (fl_bo rfl) rfl ?_
  refine fl_Tq.stp (pc' := 45) (lv' := [some (.inr (.inr (.inl (76, 277)))), none]) (st' := [.inr (.inr (.inl (79, 280))), .inl (f 280 40), .inl (f 280 8), .inl (8 : Int32), .inr (.inr (.inl (79, 280)))]) (m' := (f, l)) rfl rfl (fl_bo rfl) rfl ?_
  refine fl_Tq.cB (c := (8 : Int32)) rfl (by decide +kernel) (fl_bo rfl) ?_
  refine fl_Tq.ldV (p := 280) (τ := 79) (n := 29780) (z := (0, 0, 0)) (k := 8) (v := f 280 8) rfl (fl_bo rfl) rfl (by decide +kernel) (by decide) rfl ?_
  refine fl_Tq.stp (pc' := 49) (lv' := [some (.inr (.inr (.inl (76, 277)))), none]) (st' := [.inl ((f 280 40) - (f 280 8)), .inl (f 280 8), .inl (8 : Int32), .inr (.inr (.inl (79, 280)))]) (m' := (f, l)) rfl rfl (fl_bo rfl) rfl ?_
  refine fl_Tq.cB (c := (16 : Int32)) rfl (by decide +kernel) (fl_bo rfl) ?_
  refine fl_Tq.dv rfl (fl_bo rfl) (by decide +kernel) ?_
  refine fl_Tq.stp (pc' := 53) (lv' := [some (.inr (.inr (.inl (76, 277)))), none]) (st' := [.inl ((f 280 8) + (((f 280 40) - (f 280 8)) / (16 : Int32))), .inl (8 : Int32), .inr (.inr (.inl (79, 280)))]) (m' := (f, l)) rfl rfl (fl_bo rfl) rfl ?_
  refine fl_Tq.svV (p := 280) (τ := 79) (n := 29780) (z := (0, 0, 0)) (k := 8) (m' := (fl_row f 280 (upd (f 280) 8 ((f 280 8) + (((f 280 40) - (f 280 8)) / (16 : Int32)))), l)) rfl (fl_bo rfl) rfl (by decide +kernel) (by decide) (t2_upn rfl) ?_
  exact k
theorem r_pD {L : Nat} {xs : Nat → Int32} {f : t2_F} {l : t2_L} {Q : Option fl_V → fl_M → Prop}  (hn : 0 ≤ (f 280 2).toInt ∧ (f 280 2).toInt ≤ 16) (hr : t2_RS f) (hk : ∀ C : Nat, (C : Int) < (f 280 2).toInt → t2_ck f C) (hw : ∀ C : Nat, (C : Int) < (f 280 2).toInt → -1 ≤ (f 280 (444 + 61 * C + 16)).toInt ∧ (f 280 (444 + 61 * C + 16)).toInt ≤ 1000) (k : fl_Tq (pw_P L xs) 237 58 [some (.inr (.inr (.inl (76, 277)))), none] [] (r_goMeasure_m f, l) Q) : fl_Tq (pw_P L xs) 237 54 [some (.inr (.inr (.inl (76, 277)))), none] [] (f, l) Q := by
  refine fl_Tq.stp (pc' := 55) (lv' := [some (.inr (.inr (.inl (76, 277)))), none]) (st' := [.inr (.inr (.inl (76, 277)))]) (m' := (f, l)) rfl rfl (fl_bo rfl) rfl ?_
  refine fl_Tq.cal rfl rfl (fl_bo rfl) rfl ?_
  refine r_goMeasure_q hn hr hk hw ?_
  show fl_Tq _ 237 58 [some (.inr (.inr (.inl (76, 277)))), none] [] (r_goMeasure_m f, l) _
  exact k
theorem r_pE {L : Nat} {xs : Nat → Int32} {f : t2_F} {l : t2_L} {Q : Option fl_V → fl_M → Prop}  (hn : 0 ≤ (f 280 2).toInt ∧ (f 280 2).toInt ≤ 16) (hr : t2_RS f) (hk : ∀ C : Nat, (C : Int) < (f 280 2).toInt → t2_ck f C) (hp : (f 277 7).toInt = 0) (k : fl_Tq (pw_P L xs) 237 69 [some (.inr (.inr (.inl (76, 277)))), none] [] (r_goTaper_m f, l) Q) : fl_Tq (pw_P L xs) 237 58 [some (.inr (.inr (.inl (76, 277)))), none] [] (f, l) Q := by
  refine fl_Tq.stp (pc' := 59) (lv' := [some (.inr (.inr (.inl (76, 277)))), none]) (st' := [.inr (.inr (.inl (76, 277)))]) (m' := (f, l)) rfl rfl (fl_bo rfl) rfl ?_
  refine fl_Tq.gfV (k := 7) (v := f 277 7) rfl (fl_bo rfl) rfl rfl ?_
  refine fl_Tq.zf rfl (fl_bo rfl) (c1_ne_f hp) rfl ?_
  refine fl_Tq.stp (pc' := 66) (lv' := [some (.inr (.inr (.inl (76, 277)))), none]) (st' := [.inr (.inr (.inl (76, 277)))]) (m' := (f, l)) rfl rfl (fl_bo rfl) rfl ?_
  refine fl_Tq.cal rfl rfl (fl_bo rfl) rfl ?_
  refine r_goTaper_q hn hr hk ?_
  show fl_Tq _ 237 69 [some (.inr (.inr (.inl (76, 277)))), none] [] (r_goTaper_m f, l) _
  exact k
theorem r_pF {L : Nat} {xs : Nat → Int32} {f : t2_F} {l : t2_L} {Q : Option fl_V → fl_M → Prop}  (hn : 0 ≤ (f 280 2).toInt ∧ (f 280 2).toInt ≤ 16) (hr : t2_RS f) (hk : ∀ C : Nat, (C : Int) < (f 280 2).toInt → t2_ck f C) (hs : f 277 4 = 0 ∨ f 277 4 = 1) (hb : 0 ≤ (f 280 20).toInt ∧ (f 280 20).toInt ≤ 24) (k : fl_Tq (pw_P L xs) 237 74 [some (.inr (.inr (.inl (76, 277)))), some (.inl (r_goFaults_v f))] [] (r_goFaults_m f, l) Q) : fl_Tq (pw_P L xs) 237 69 [some (.inr (.inr (.inl (76, 277)))), none] [] (f, l) Q := by
  refine fl_Tq.stp (pc' := 70) (lv' := [some (.inr (.inr (.inl (76, 277)))), none]) (st' := [.inr (.inr (.inl (76, 277)))]) (m' := (f, l)) rfl rfl (fl_bo rfl) rfl ?_
  refine fl_Tq.cal rfl rfl (fl_bo rfl) rfl ?_
  refine r_goFaults_q hn hr hk hs hb ?_
  show fl_Tq _ 237 73 [some (.inr (.inr (.inl (76, 277)))), none] [.inl (r_goFaults_v f)] (r_goFaults_m f, l) _
  refine fl_Tq.stp (pc' := 74) (lv' := [some (.inr (.inr (.inl (76, 277)))), some (.inl (r_goFaults_v f))]) (st' := []) (m' := (r_goFaults_m f, l)) rfl rfl (fl_bo rfl) rfl ?_
  exact k
theorem r_pG {L : Nat} {xs : Nat → Int32} {f : t2_F} {l : t2_L} {Q : Option fl_V → fl_M → Prop} {mo : Int32} (hn : 0 ≤ (f 280 2).toInt ∧ (f 280 2).toInt ≤ 16) (hr : t2_RS f) (hk : ∀ C : Nat, (C : Int) < (f 280 2).toInt → t2_ck f C) (htr : 0 ≤ (f 280 21).toInt ∧ (f 280 21).toInt ≤ 32) (hkt : ∀ C : Nat, (C : Int) < (f 280 2).toInt → (1 ≤ (f 280 (444 + 61 * C + 10)).toInt ∧ (f 280 (444 + 61 * C + 10)).toInt ≤ 32) ∧ r_tv f C) (k : fl_Tq (pw_P L xs) 237 78 [some (.inr (.inr (.inl (76, 277)))), some (.inl mo)] [] (r_goKept_m f, l) Q) : fl_Tq (pw_P L xs) 237 74 [some (.inr (.inr (.inl (76, 277)))), some (.inl mo)] [] (f, l) Q := by
  refine fl_Tq.stp (pc' := 75) (lv' := [some (.inr (.inr (.inl (76, 277)))), some (.inl mo)]) (st' := [.inr (.inr (.inl (76, 277)))]) (m' := (f, l)) rfl rfl (fl_bo rfl) rfl ?_
  refine fl_Tq.cal rfl rfl (fl_bo rfl) rfl ?_
  refine r_goKept_q hn hr hk htr hkt ?_
  show fl_Tq _ 237 78 [some (.inr (.inr (.inl (76, 277)))), some (.inl mo)] [] (r_goKept_m f, l) _
  exact k
theorem r_pH {L : Nat} {xs : Nat → Int32} {f : t2_F} {l : t2_L} {Q : Option fl_V → fl_M → Prop} {mo : Int32} (hn : 0 ≤ (f 280 2).toInt ∧ (f 280 2).toInt ≤ 16) (hr : t2_RS f) (hk : ∀ C : Nat, (C : Int) < (f 280 2).toInt → t2_ck f C) (hrn : 0 ≤ (f 280 18).toInt ∧ (f 280 18).toInt ≤ 8) (hru : ∀ k : Nat, k < 8 → 0 ≤ (f 280 ((79 + (5 * k)) + 3)).toInt ∧ (f 280 ((79 + (5 * k)) + 3)).toInt ≤ 29) (hp : (f 277 7).toInt = 0) (k : fl_Tq (pw_P L xs) 237 89 [some (.inr (.inr (.inl (76, 277)))), some (.inl mo)] [] (r_goRules_m f, l) Q) : fl_Tq (pw_P L xs) 237 78 [some (.inr (.inr (.inl (76, 277)))), some (.inl mo)] [] (f, l) Q := by
  refine fl_Tq.stp (pc' := 79) (lv' := [some (.inr (.inr (.inl (76, 277)))), some (.inl mo)]) (st' := [.inr (.inr (.inl (76, 277)))]) (m' := (f, l)) rfl rfl (fl_bo rfl) rfl ?_
  refine fl_Tq.gfV (k := 7) (v := f 277 7) rfl (fl_bo rfl) rfl rfl ?_
  refine fl_Tq.zf rfl (fl_bo rfl) (c1_ne_f hp) rfl ?_
  refine fl_Tq.stp (pc' := 86) (lv' := [some (.inr (.inr (.inl (76, 277)))), some (.inl mo)]) (st' := [.inr (.inr (.inl (76, 277)))]) (m' := (f, l)) rfl rfl (fl_bo rfl) rfl ?_
  refine fl_Tq.cal rfl rfl (fl_bo rfl) rfl ?_
  refine r_goRules_q hn hr hk hrn hru ?_
  show fl_Tq _ 237 89 [some (.inr (.inr (.inl (76, 277)))), some (.inl mo)] [] (r_goRules_m f, l) _
  exact k
theorem r_pI {L : Nat} {xs : Nat → Int32} {f : t2_F} {l : t2_L} {Q : Option fl_V → fl_M → Prop} {mo : Int32}  (k : Q (some (.inl mo)) (f, l)) : fl_Tq (pw_P L xs) 237 89 [some (.inr (.inr (.inl (76, 277)))), some (.inl mo)] [] (f, l) Q := by
  refine fl_Tq.stp (pc' := 90) (lv' := [some (.inr (.inr (.inl (76, 277)))), some (.inl mo)]) (st' := [.inl mo]) (m' := (f, l)) rfl rfl (fl_bo rfl) rfl ?_
  exact fl_Tq.ret rfl rfl rfl k

end

/-! 94.29.run.lean.txt -/
section
/-! ===== block 0: a second of the class, run ===== -/
section C0RUN
variable {fc fr f g : t2_F} {C n : Nat} {c x : Int32}
theorem t2_wf_I {g : t2_F → Option t2_F} {I : t2_F → Prop} (hI : ∀ f f' : t2_F, I f → g f = some f' → I f') : ∀ (n : Nat) (f : t2_F), I f → I (t2_wf g n f) := by
  intro n
  induction n with
  | zero => intro f h; exact h
  | succ n ih =>
    intro f h
    unfold t2_wf
    cases e : g f with
    | none => exact h
    | some f' => exact ih f' (hI f f' h e)
theorem c0_follow_p32 {i : Nat} (ht : 1 ≤ (f (19 + 4 * i) 2).toInt ∧ (f (19 + 4 * i) 2).toInt ≤ 32) (hv : t2_p32 (f (20 + 4 * i))) (hx : t2_pt x) : t2_p32 (c0_follow_m f i x (20 + 4 * i)) := by
  have c32 : (32 : Int32).toInt = 32 := by decide +kernel
  have c1 : (1 : Int32).toInt = 1 := by decide +kernel
  have cc : ∀ F : t2_F, (1 ≤ (F (19 + 4 * i) 2).toInt ∧ (F (19 + 4 * i) 2).toInt ≤ 32) ∧ t2_p32 (F (20 + 4 * i)) → t2_p32 (c0_cc_m F i (20 + 4 * i)) := fun F hF => by
    unfold c0_cc_m
    refine (t2_wf_I (g := fun f => c0_cc_g0 f i) (I := fun F => (1 ≤ (F (19 + 4 * i) 2).toInt ∧ (F (19 + 4 * i) 2).toInt ≤ 32) ∧ t2_p32 (F (20 + 4 * i))) (fun a b h e => ?_) 32 F hF).2
    have d := c0_cc_dec (by omega) h.2 e
    exact ⟨⟨d.1.2.1, by omega⟩, d.2 h.1.2⟩
  unfold c0_follow_m
  split
  · exact hv
  · split
    · exact hv
    · split
      · refine cc _ ⟨?_, c0_uadd_hv hv hx⟩
        unfold c0_uadd_m
        split
        · rename_i h
          rw [fl_row_self, upd_self]
          have e1 : ((f (19 + 4 * i) 2) - (1 : Int32)).toInt = (f (19 + 4 * i) 2).toInt - 1 := by rw [at_sub32 (by omega) (by omega), c1]
          rw [at_add32 (by omega) (by omega), e1, c1]
          omega
        · rename_i h
          rw [fl_row_self, upd_self, at_add32 (by omega) (by omega), c1]
          omega
      · refine cc _ ⟨?_, ?_⟩
        · rw [fl_row_ne (by omega)]
          exact ht
        · rw [fl_row_self]
          exact hv.upd hx
/-- what lies in the class's rows beside the relation -/
def c0_J (f : t2_F) : Prop := (∀ i : Nat, i < 16 → t2_p32 (f (20 + 4 * i))) ∧ ∀ k : Nat, k < 8 → 0 ≤ (f 9 ((k * 5) + 3)).toInt ∧ (f 9 ((k * 5) + 3)).toInt ≤ 29
theorem c0_J.congr (h : c0_J f) (e : ∀ p : Nat, (p = 9 ∨ (19 < p ∧ p < 82 ∧ ∀ C : Nat, p ≠ 18 + 4 * C)) → g p = f p) : c0_J g :=
  ⟨fun i hi => by rw [e _ (Or.inr ⟨by omega, by omega, fun C => by omega⟩)]; exact h.1 i hi, fun k hk => by rw [e _ (Or.inl rfl)]; exact h.2 k hk⟩
theorem c0_sKeep_J (hc : 0 ≤ (f 1 5).toInt ∧ (f 1 5).toInt ≤ 16) (hkt : ∀ i : Nat, (i : Int) < (f 1 5).toInt → (1 ≤ (f (19 + 4 * i) 2).toInt ∧ (f (19 + 4 * i) 2).toInt ≤ 32) ∧ t2_p32 (f (20 + 4 * i)) ∧ t2_pt (f (18 + 4 * i) 3)) (hj : c0_J f) : c0_J (c0_sKeep_m f) := by
  have fr : ∀ (k p : Nat), p ≠ 16 → p ≠ 17 → (p < 18 ∨ 18 + 4 * k ≤ p) → c0_sKeep_f25 f k p = f p := fun k p h16 h17 hp => by
    rw [c0_sKeep_f25_fr (k := k) (fun j hj => by omega) (fun j hj => by omega) (fun j hj => by omega) (fun j hj => by omega), c0_tadd_fr h17 h16]
  refine ⟨fun i hi => ?_, fun k hk => ?_⟩
  · by_cases hn : (i : Int) < (f 1 5).toInt
    · obtain ⟨k1, k2, k3⟩ := hkt i hn
      have at_ : ∀ k : Nat, i < k → c0_sKeep_f25 f k (20 + 4 * i) = c0_sKeep_b25_m (c0_sKeep_f25 f i) i (20 + 4 * i) := by
        intro k
        induction k with
        | zero => intro h; exact absurd h (Nat.not_lt_zero _)
        | succ k ih =>
          intro h
          by_cases e : i = k
          · subst e
            rfl
          · exact (c0_sKeep_b25_fr (f := c0_sKeep_f25 f k) (k := k) (by omega) (by omega) (by omega) (by omega)).trans (ih (by omega))
      unfold c0_sKeep_m
      rw [at_ _ (by omega)]
      unfold c0_sKeep_b25_m c0_keepTrack_m
      have r18 := fr i (18 + 4 * i) (by omega) (by omega) (by omega)
      have r19 := fr i (19 + 4 * i) (by omega) (by omega) (by omega)
      have r20 := fr i (20 + 4 * i) (by omega) (by omega) (by omega)
      refine c0_follow_p32 ?_ ?_ ?_
      · rw [fl_row_ne (by omega), r19]
        exact k1
      · rw [fl_row_ne (by omega), r20]
        exact k2
      · rw [r18]
        exact k3
    · unfold c0_sKeep_m
      rw [fr _ _ (by omega) (by omega) (by omega)]
      exact hj.1 i hi
  · unfold c0_sKeep_m
    rw [fr _ _ (by decide) (by decide) (by omega)]
    exact hj.2 k hk
theorem c0_I.hc (h : c0_I fc fr) : 0 ≤ (fc 1 5).toInt ∧ (fc 1 5).toInt ≤ 16 := by have := h.cnt; omega
theorem c0_IM.hc (h : c0_IM fc fr) : 0 ≤ (fc 1 5).toInt ∧ (fc 1 5).toInt ≤ 16 := by have := h.cnt; omega
theorem c0_IK.hc (h : c0_IK fc fr) : 0 ≤ (fc 1 5).toInt ∧ (fc 1 5).toInt ≤ 16 := by
  obtain ⟨⟨⟨h5, -⟩, -⟩, -, -, -, -, ⟨-, -, h2, -⟩, -⟩ := h
  rw [h5]
  exact h2
theorem c0_I.hk (h : c0_I fc fr) : ∀ i : Nat, (i : Int) < (fc 1 5).toInt → t2_cap (fc (18 + 4 * i) 0) := fun i hi => by
  have cn := h.cnt
  have k := h.cell (C := i) (by omega)
  rw [k.1.1.1.1]
  exact k.2.1.1
/-- the rows that (2) and (4) leave -/
theorem c0_I.curP (h : c0_I fc fr) : ∀ p : Nat, p ≠ 1 → (∀ C : Nat, p ≠ 18 + 4 * C) → c0_letCurrent_m fc p = fc p := by
  obtain ⟨⟨⟨g5, g6, g7, g8⟩, -⟩, rs, gx, cl, ok⟩ := id h
  have hm0 : t2_lo 4 ≤ (fr 280 38).toInt ∧ (fr 280 38).toInt ≤ t2_hi 4 := ok.s (k := 4) (by decide)
  have l4 : t2_lo 4 = 1 := by decide
  have h4 : t2_hi 4 = 99999 := by decide
  obtain ⟨-, -, -, k4, -⟩ := c0_cur_eq h.rl g7 gx.1.1 ok.2.2.1 (by omega)
  exact fun p hp hC => funext (fun k => k4 p k (fun q => absurd q hp) (fun C c q => absurd q (hC C)))
theorem c0_I.balP (h : c0_I fc fr) : ∀ p : Nat, p ≠ 1 → (∀ C : Nat, p ≠ 18 + 4 * C) → c0_balance_m fc p = fc p := by
  have hh := h
  obtain ⟨⟨⟨g5, g6, g7, g8⟩, ⟨g9, g10, g11, g12⟩, g13, g14, g15, g16⟩, rs, gx, cl, ok⟩ := h
  have cn := hh.cnt
  generalize hnn : (fr 280 2).toInt.toNat = n at *
  have hM : (fc 1 5).toInt.toNat = n := by omega
  have oc : ∀ C : Nat, C < n → t2_OC (fr 280) C := fun C hC => (hh.cell (by omega)).2
  have rc : ∀ C : Nat, C < n → c0_Rc fc fr C := fun C hC => (hh.cell (by omega)).1.1
  have rb : c0_RB fc fr n := ⟨rs, fun C hC => ⟨rc C hC, by rw [(rc C hC).1.1]; exact (oc C hC).1.1, (oc C hC).1⟩, g14, g15, g11, g13, g16⟩
  have b13 : t2_lo 13 ≤ (fr 280 47).toInt ∧ (fr 280 47).toInt ≤ t2_hi 13 := ok.s (k := 13) (by decide)
  have q13 : t2_lo 13 = 0 ∧ t2_hi 13 = 16 := by decide
  have hl : fc 10 3 = fr 280 6 := gx.2.1.1.1
  obtain ⟨P, -, -, -⟩ := c0_balance_o hM hnn cn.2.1 rb hl g6 (by omega)
  exact fun p hp hC => P p hp (fun C _ => hC C)
/-- all that a second goes through -/
theorem c0_I.chain (h : c0_I fc fr) (ht : (fr 280 7).toInt < 9999) :
    c0_I (c0_s1 fc) (r_t1 fr) ∧ c0_I (c0_moveBus_m (c0_s1 fc)) (r_goBus_m (r_t1 fr)) ∧ c0_I (c0_letCurrent_m (c0_moveBus_m (c0_s1 fc))) (r_goCurrent_m (r_goBus_m (r_t1 fr))) ∧
    c0_I (c0_passCells_m (c0_letCurrent_m (c0_moveBus_m (c0_s1 fc)))) (r_goCells_m (r_goCurrent_m (r_goBus_m (r_t1 fr)))) ∧ c0_I (c0_balance_m (c0_passCells_m (c0_letCurrent_m (c0_moveBus_m (c0_s1 fc))))) (r_goBalance_m (r_goCells_m (r_goCurrent_m (r_goBus_m (r_t1 fr))))) ∧
    c0_I (c0_s5 (c0_balance_m (c0_passCells_m (c0_letCurrent_m (c0_moveBus_m (c0_s1 fc)))))) (r_t5 (r_goBalance_m (r_goCells_m (r_goCurrent_m (r_goBus_m (r_t1 fr)))))) ∧ c0_IM (c0_u6 fc) (r_v6 fr) ∧
    (∃ slow : Bool, c0_so fc = (if slow = true then (32 : Int32) else (0 : Int32)) ∧ r_v6 fr 277 4 = if slow = true then 1 else 0) ∧
    (c0_IM (c0_s8 (c0_s7 (c0_so fc) (c0_u6 fc))) (r_goFaults_m (r_v6 fr)) ∧ c0_sec_v fc = r_sec_v fr) ∧ c0_IK (c0_sKeep_m (c0_s8 (c0_s7 (c0_so fc) (c0_u6 fc)))) (r_goKept_m (r_goFaults_m (r_v6 fr))) ∧
    c0_I (c0_sec_m fc) (r_sec_m fr) := by
  have c0 : (0 : Int32).toInt = 0 := rfl
  have c1 : (1 : Int32).toInt = 1 := by decide +kernel
  obtain ⟨i1, t1⟩ := h.s1 ht
  obtain ⟨i2, sv, s01, -⟩ := i1.bus
  obtain ⟨i3, w3⟩ := i2.cur
  have o1 : ∀ w : Nat, w ≠ 7 → r_t1 fr 280 w = fr 280 w := fun w hw => by unfold r_t1; rw [fl_row_self, upd_ne hw]
  have o2 : ∀ w : Nat, w ≠ 3 → w ≠ 4 → r_goBus_m (r_t1 fr) 280 w = r_t1 fr 280 w := fun w h3 h4 => by rw [r_goBus_w2, if_neg h4, if_neg h3]
  have i4 := i3.cells (fun C hC => by
    have e7 : r_goCurrent_m (r_goBus_m (r_t1 fr)) 280 7 = r_t1 fr 280 7 := by rw [w3 7 (by decide) (fun D _ => by omega), o2 7 (by decide) (by decide)]
    have e5 : r_goCurrent_m (r_goBus_m (r_t1 fr)) 280 (444 + 61 * C + 5) = fr 280 (444 + 61 * C + 5) := by rw [w3 _ (by omega) (fun D _ => by omega), o2 _ (by omega) (by omega), o1 _ (by omega)]
    have e2 : r_goCurrent_m (r_goBus_m (r_t1 fr)) 280 2 = fr 280 2 := by rw [w3 2 (by decide) (fun D _ => by omega), o2 2 (by decide) (by decide), o1 2 (by decide)]
    rw [e2] at hC
    have t := (h.cell hC).2.2.2.2.1.2
    rw [e5, e7, t1]
    omega)
  have i6 := i4.bal.s5.meas
  have f277 : r_v6 fr 277 4 = r_goBus_m (r_t1 fr) 277 4 := by
    unfold r_v6
    rw [r_goTaper_fr (by decide), r_goMeasure_fr (by decide)]
    unfold r_t5
    rw [fl_row_ne (by decide), r_balance_277 (by decide), r_goCells_fr (by decide), r_goCurrent_fr (by decide)]
  have hsl : r_v6 fr 277 4 = if (decide (r_goBus_m (r_t1 fr) 277 4 = 1)) = true then 1 else 0 := by
    rw [f277]
    rcases s01 with e | e
    · rw [e]
      decide
    · rw [e]
      decide
  have hso : c0_so fc = if (decide (r_goBus_m (r_t1 fr) 277 4 = 1)) = true then (32 : Int32) else (0 : Int32) := by
    unfold c0_so
    rw [sv]
    rcases s01 with e | e
    · rw [e]
      decide
    · rw [e]
      decide
  obtain ⟨i8, v8⟩ := i6.flt hso hsl
  exact ⟨i1, i2, i3, i4, i4.bal, i4.bal.s5, i6, ⟨_, hso, hsl⟩, ⟨i8, v8⟩, i8.kept, i8.kept.rules.s9⟩
/-- what the class's rows are behind (6), and behind (7) -/
theorem c0_u6_p (h : c0_I fc fr) (ht : (fr 280 7).toInt < 9999) {p : Nat} (h1 : p ≠ 1) (h4 : p ≠ 4) (hC : ∀ C : Nat, p ≠ 18 + 4 * C) : c0_u6 fc p = fc p := by
  obtain ⟨i1, i2, i3, i4, i5, i6, -⟩ := h.chain ht
  unfold c0_u6
  rw [(c0_measure_o (n := (c0_s5 (c0_balance_m (c0_passCells_m (c0_letCurrent_m (c0_moveBus_m (c0_s1 fc))))) 1 5).toInt.toNat) rfl).1 p h1 h4 (fun C _ => hC C)]
  have e5 : ∀ f : t2_F, c0_s5 f p = f p := fun f => fl_row_ne h1
  rw [e5, i4.balP p h1 hC, c0_cells_p (Or.inr (fun C _ => hC C)) (by have := i3.hc; omega), i2.curP p h1 hC, c0_moveBus_fr h1]
  exact fl_row_ne h1
theorem c0_s8_p {so : Int32} {p : Nat} (h1 : p ≠ 1) (h7 : p < 10 ∨ 15 ≤ p) : c0_s8 (c0_s7 so f) p = f p := by
  have P7 : c0_s7 so f p = f p := by
    unfold c0_s7
    rw [c0_latch_fr (by omega) (by omega) (by omega) (by omega), c0_faultsOfPack_fr (by omega), c0_faultsOfCells_fr (by omega)]
  unfold c0_s8
  split
  · exact P7
  · rw [fl_row_ne h1, P7]
theorem c0_kt (h : c0_IM f fr) (hj : c0_J f) : ∀ i : Nat, (i : Int) < (f 1 5).toInt → (1 ≤ (f (19 + 4 * i) 2).toInt ∧ (f (19 + 4 * i) 2).toInt ≤ 32) ∧ t2_p32 (f (20 + 4 * i)) ∧ t2_pt (f (18 + 4 * i) 3) := fun i hi => by
  have cn := h.cnt
  obtain ⟨⟨ra, -, -, -, ti⟩, oc⟩ := h.cell (C := i) (by omega)
  refine ⟨by rw [ti.1]; exact ti.2.2.2.1, hj.1 i (by omega), ?_⟩
  have pb := t2_ckp oc.1
  have e : f (18 + 4 * i) 3 = ((((1000 : Int64) * (fr 280 (444 + 61 * i + 1)).toInt64) / ((3600 : Int32) * (fr 280 (444 + 61 * i + 0))).toInt64).toInt32) := ra.2.1.1
  rw [e]
  exact ⟨pb.1, by omega⟩
theorem c0_J.u6 (h : c0_I fc fr) (ht : (fr 280 7).toInt < 9999) (hj : c0_J fc) : c0_J (c0_s8 (c0_s7 (c0_so fc) (c0_u6 fc))) := hj.congr (fun p hp => by rw [c0_s8_p (by omega) (by omega), c0_u6_p h ht (by omega) (by omega) (fun C => by rcases hp with e | ⟨-, -, e⟩; omega; exact e C)])
theorem c0_J.sec (h : c0_I fc fr) (ht : (fr 280 7).toInt < 9999) (hj : c0_J fc) : c0_J (c0_sec_m fc) := by
  obtain ⟨-, -, -, -, -, -, -, -, ⟨i8, -⟩, -, -⟩ := h.chain ht
  have j8 := hj.u6 h ht
  have jk := c0_sKeep_J i8.hc (c0_kt i8 j8) j8
  unfold c0_sec_m c0_s9
  exact jk.congr (fun p hp => by rw [fl_row_ne (by omega), c0_obeyRules_fr (by omega)])
/-- A SECOND OF THE CLASS, RUN -/
theorem c0_sec_q {L : Nat} {xs : Nat → Int32} {l : t2_L} {Q : Option fl_V → fl_M → Prop} (h : c0_I fc fr) (ht : (fr 280 7).toInt < 9999) (hj : c0_J fc) (k : Q (some (.inl (c0_sec_v fc))) (c0_sec_m fc, l)) : fl_Tq (pw_P L xs) 57 0 (fl_args (am_mxl (pw_P L xs) 57) [.inr (.inr (.inl (1, 1)))]) [] (fc, l) Q := by
  obtain ⟨i1, i2, i3, i4, i5, i6, im, -, ⟨i8, -⟩, ik, -⟩ := h.chain ht
  have j8 := hj.u6 h ht
  have jk := c0_sKeep_J i8.hc (c0_kt i8 j8) j8
  have b13 := i4.2.2.2.2.s (k := 13) (by decide)
  have q13 : t2_lo 13 = 0 ∧ t2_hi 13 = 16 := by decide
  have s13 : c0_passCells_m (c0_letCurrent_m (c0_moveBus_m (c0_s1 fc))) 4 13 = _ := i4.2.1 13 (by decide)
  have tm : c0_faultsOfPack_m (c0_faultsOfCells_m (c0_u6 fc)) 1 6 = c0_u6 fc 1 6 := by rw [c0_faultsOfPack_fr (by decide), c0_faultsOfCells_fr (by decide)]
  show fl_Tq (pw_P L xs) 57 0 [some (.inr (.inr (.inl (1, 1)))), none, none] [] (fc, l) Q
  refine c0_pA ?_
  refine c0_pB (f := c0_s1 fc) i1.hc ?_
  refine c0_pC1 (so := c0_so fc) i2.hc (by rw [i2.2.2.1.1.2.1.1]; exact i2.2.2.2.2.2.2.2.1.1) ?_
  refine c0_pC2 i3.hc i3.hk ?_
  refine c0_pC3 i4.hc i4.hk (by rw [s13]; omega) ?_
  refine c0_pD ?_
  refine c0_pE (f := c0_s5 (c0_balance_m (c0_passCells_m (c0_letCurrent_m (c0_moveBus_m (c0_s1 fc)))))) i6.hc ?_
  refine c0_pF (f := c0_u6 fc) im.hc (by rw [c0_faultsOfCells_fr (by decide)]; exact im.hc) ?_ ?_
  · rw [c0_faultsOfPack_fr (by decide), c0_faultsOfCells_fr (by decide)]
    obtain ⟨-, -, ⟨-, ⟨-, -, -, bk⟩, -⟩, -⟩ := im
    exact ⟨bk.1, bk.2.1, by rw [bk.2.2.1]; exact bk.2.2.2.1⟩
  · rw [tm]
    have K : fl_Tq (pw_P L xs) 57 111 [some (.inr (.inr (.inl (1, 1)))), some (.inl (c0_so fc)), some (.inl (c0_sec_v fc))] [] (c0_s8 (c0_s7 (c0_so fc) (c0_u6 fc)), l) Q := by
      refine c0_pH1 i8.hc (c0_kt i8 j8) ?_ ?_
      · obtain ⟨-, -, ⟨-, -, tr, -⟩, -⟩ := i8
        exact ⟨tr.1, tr.2.1, by rw [tr.2.2.1]; exact tr.2.2.2.1⟩
      · refine c0_pH2 ik.hc (by rw [ik.2.2.1.1.2.2.1.1]; exact ik.2.2.1.1.2.2.1.2.1) jk.2 ?_
        exact c0_pI k
    refine c0_pG (f := c0_s7 (c0_so fc) (c0_u6 fc)) (fun e => ?_) (fun e => ?_)
    · have e8 : c0_s8 (c0_s7 (c0_so fc) (c0_u6 fc)) = c0_s7 (c0_so fc) (c0_u6 fc) := if_pos e
      rw [e8] at K
      exact K
    · have e8 : c0_s8 (c0_s7 (c0_so fc) (c0_u6 fc)) = fl_row (c0_s7 (c0_so fc) (c0_u6 fc)) 1 (upd ((c0_s7 (c0_so fc) (c0_u6 fc)) 1) 7 (0 : Int32)) := if_neg e
      rw [e8] at K
      exact K
theorem t2_RS.same (h : t2_RS f) (e : g 279 = f 279) : t2_RS g := fun j => by rw [e]; exact h j
theorem c0_I.rhu (h : c0_I fc fr) : (0 ≤ (fr 280 2).toInt ∧ (fr 280 2).toInt ≤ 16) ∧ ∀ C : Nat, (C : Int) < (fr 280 2).toInt → t2_ck fr C := ⟨h.2.2.2.2.2.1.2.2.1, fun C hC => (h.2.2.2.2.2.2.2.2.2.2.2 C hC).1⟩
theorem c0_IM.rhu (h : c0_IM fc fr) : (0 ≤ (fr 280 2).toInt ∧ (fr 280 2).toInt ≤ 16) ∧ ∀ C : Nat, (C : Int) < (fr 280 2).toInt → t2_ck fr C := ⟨h.2.2.2.2.2.1.2.2.1, fun C hC => (h.2.2.2.2.2.2.2.2.2.2.2 C hC).1⟩
theorem c0_IK.rhu (h : c0_IK fc fr) : (0 ≤ (fr 280 2).toInt ∧ (fr 280 2).toInt ≤ 16) ∧ ∀ C : Nat, (C : Int) < (fr 280 2).toInt → t2_ck fr C := ⟨h.2.2.2.2.2.1.2.2.1, fun C hC => (h.2.2.2.2.2.2.2.2.2.2.2 C hC).1⟩
noncomputable def r_w6 (f : t2_F) : t2_F := r_goMeasure_m (r_t5 (r_goBalance_m (r_goCells_m (r_goCurrent_m (r_goBus_m (r_t1 f))))))
theorem r_v6_w : r_v6 f = r_goTaper_m (r_w6 f) := rfl
/-- the reference's other rows -/
theorem r_v6_p {p : Nat} (h280 : p ≠ 280) (h277 : p ≠ 277) (h282 : p ≠ 282) : r_v6 f p = f p := by
  unfold r_v6
  rw [r_goTaper_fr h280, r_goMeasure_fr h280]
  unfold r_t5
  rw [fl_row_ne h280, r_goBalance_fr h277 h282 h280, r_goCells_fr h280, r_goCurrent_fr h280, r_goBus_fr h277 h280]
  exact fl_row_ne h280
theorem r_sec_p {p : Nat} (h280 : p ≠ 280) (h277 : p ≠ 277) (h282 : p ≠ 282) : r_sec_m f p = f p := by
  unfold r_sec_m
  rw [r_goRules_fr h280]
  unfold r_goKept_m
  rw [r_goKept_f117_fr (k := (r_goFaults_m (r_v6 f) 280 2).toInt.toNat) h280, fl_row_ne h280, r_goKept_m9_fr h280, r_goFaults_fr h280, r_v6_p h280 h277 h282]
theorem r_kept_p {p : Nat} (h280 : p ≠ 280) : r_goKept_m f p = f p := by
  unfold r_goKept_m
  rw [r_goKept_f117_fr (k := (f 280 2).toInt.toNat) h280, fl_row_ne h280, r_goKept_m9_fr h280]
/-- the reference's place 277 in a second -/
theorem c0_I.p277 (h : c0_I fc fr) (ht : (fr 280 7).toInt < 9999) {j : Nat} (h4 : j ≠ 4) (h6 : j ≠ 6) : r_w6 fr 277 j = fr 277 j ∧ r_v6 fr 277 j = fr 277 j ∧ r_sec_m fr 277 j = fr 277 j := by
  obtain ⟨i1, -⟩ := h.s1 ht
  obtain ⟨-, -, -, sl⟩ := i1.bus
  have e6 : r_w6 fr 277 j = fr 277 j := by
    unfold r_w6
    rw [r_goMeasure_fr (by decide)]
    unfold r_t5
    rw [fl_row_ne (by decide), r_balance_277 h6, r_goCells_fr (by decide), r_goCurrent_fr (by decide), sl j h4]
    unfold r_t1
    rw [fl_row_ne (by decide)]
  have e7 : r_v6 fr 277 j = fr 277 j := by
    rw [r_v6_w, r_goTaper_fr (by decide), e6]
  refine ⟨e6, e7, ?_⟩
  unfold r_sec_m
  rw [r_goRules_fr (by decide), r_kept_p (by decide), r_goFaults_fr (by decide), e7]
/-- A SECOND OF THE REFERENCE, RUN -/
theorem c0_rsec_q {L : Nat} {xs : Nat → Int32} {l : t2_L} {Q : Option fl_V → fl_M → Prop} (h : c0_I fc fr) (ht : (fr 280 7).toInt < 9999) (hr : t2_RS fr) (hp : fr 277 7 = 0) (k : Q (some (.inl (r_sec_v fr))) (r_sec_m fr, l)) : fl_Tq (pw_P L xs) 237 0 (fl_args (am_mxl (pw_P L xs) 237) [.inr (.inr (.inl (76, 277)))]) [] (fr, l) Q := by
  have c0 : (0 : Int32).toInt = 0 := rfl
  obtain ⟨i1, i2, i3, i4, i5, i6, im, ⟨slow, -, hsl⟩, ⟨i8, -⟩, ik, -⟩ := h.chain ht
  obtain ⟨p6, p7, ps⟩ := h.p277 ht (j := 7) (by decide) (by decide)
  have b24 := i3.2.2.2.2.s (k := 24) (by decide)
  have q24 : t2_lo 24 = 0 ∧ t2_hi 24 = 9999 ∧ t2_lo 13 = 0 ∧ t2_hi 13 = 16 := by decide
  have b13 := i4.2.2.2.2.s (k := 13) (by decide)
  have R1 : t2_RS (r_t1 fr) := hr.same (fl_row_ne (by decide))
  have R2 : t2_RS (r_goBus_m (r_t1 fr)) := R1.same (r_goBus_fr (by decide) (by decide))
  have R3 : t2_RS (r_goCurrent_m (r_goBus_m (r_t1 fr))) := R2.same (r_goCurrent_fr (by decide))
  have R6 : t2_RS (r_t5 (r_goBalance_m (r_goCells_m (r_goCurrent_m (r_goBus_m (r_t1 fr)))))) := R3.same (by unfold r_t5; rw [fl_row_ne (by decide), r_goBalance_fr (by decide) (by decide) (by decide), r_goCells_fr (by decide)])
  have RW : t2_RS (r_w6 fr) := R6.same (r_goMeasure_fr (by decide))
  have R7 : t2_RS (r_v6 fr) := RW.same (by rw [r_v6_w, r_goTaper_fr (by decide)])
  have R8 : t2_RS (r_goFaults_m (r_v6 fr)) := R7.same (r_goFaults_fr (by decide))
  have R9 : t2_RS (r_goKept_m (r_goFaults_m (r_v6 fr))) := R8.same (r_kept_p (by decide))
  have W6 : ∀ w : Nat, (w = 2 ∨ ∃ C : Nat, w = 444 + 61 * C + 0 ∨ w = 444 + 61 * C + 1) → r_w6 fr 280 w = r_t5 (r_goBalance_m (r_goCells_m (r_goCurrent_m (r_goBus_m (r_t1 fr))))) 280 w := fun w hw => by
    unfold r_w6
    rcases hw with e | ⟨C, e | e⟩
    · rw [e, r_meas_mid (by decide), r_mid_lo (by decide) (by decide) (by decide)]
    · rw [e, r_meas_mid (by omega), r_mid_s (by omega)]
    · rw [e, r_meas_mid (by omega), r_mid_s (by omega)]
  have u6 := i6.rhu
  show fl_Tq (pw_P L xs) 237 0 [some (.inr (.inr (.inl (76, 277)))), none] [] (fr, l) Q
  refine r_pA ?_
  refine r_pB1 (f := r_t1 fr) i1.rhu.1 R1 i1.rhu.2 ?_
  refine r_pB2 i2.rhu.1 R2 i2.rhu.2 i2.2.2.2.2.2.2.2.1.1 ?_
  refine r_pB3 i3.rhu.1 ?_ ?_
  · have b : t2_lo 24 ≤ (r_goCurrent_m (r_goBus_m (r_t1 fr)) 280 58).toInt ∧ (r_goCurrent_m (r_goBus_m (r_t1 fr)) 280 58).toInt ≤ t2_hi 24 := b24
    have c36 : (3600 : Int32).toInt = 3600 := by decide +kernel
    rw [at_mul32] <;> rw [c36] <;> omega
  · refine r_pB4 i4.rhu.1 i4.rhu.2 ?_ ?_
    · have b : t2_lo 13 ≤ (r_goCells_m (r_goCurrent_m (r_goBus_m (r_t1 fr))) 280 47).toInt ∧ (r_goCells_m (r_goCurrent_m (r_goBus_m (r_t1 fr))) 280 47).toInt ≤ t2_hi 13 := b13
      omega
    · refine r_pC ?_
      refine r_pD (f := r_t5 (r_goBalance_m (r_goCells_m (r_goCurrent_m (r_goBus_m (r_t1 fr)))))) u6.1 R6 u6.2 (fun C hC => (i6.2.2.2.2.2.2.2.2.2.2.2 C hC).2.2.2.2.2.2.1) ?_
      refine r_pE (f := r_w6 fr) (by rw [W6 2 (Or.inl rfl)]; exact u6.1) RW (fun C hC => ?_) (by rw [p6, hp]; exact c0) ?_
      · rw [W6 2 (Or.inl rfl)] at hC
        have ck := u6.2 C hC
        unfold t2_ck
        rw [W6 (444 + 61 * C + 0) (Or.inr ⟨C, Or.inl rfl⟩), W6 (444 + 61 * C + 1) (Or.inr ⟨C, Or.inr rfl⟩)]
        exact ck
      · refine r_pF (f := r_v6 fr) im.rhu.1 R7 im.rhu.2 ?_ im.2.2.2.2.2.2.2.2.2.2.1.2.1 ?_
        · rw [hsl]
          cases slow
          · exact Or.inl rfl
          · exact Or.inr rfl
        · refine r_pG (mo := r_sec_v fr) i8.rhu.1 R8 i8.rhu.2 i8.2.2.2.2.2.2.2.2.2.2.1.2.2 (fun C hC => ?_) ?_
          · have a := (i8.2.2.2.2.2.2.2.2.2.2.2 C hC).2.2.2.2.2.2.2
            exact ⟨a.1, a.2.1⟩
          · refine r_pH ik.rhu.1 R9 ik.rhu.2 ik.2.2.2.2.2.2.2.2.1.1 ik.2.2.2.2.2.2.2.2.1.2.1 ?_ ?_
            · rw [r_kept_p (by decide), r_goFaults_fr (by decide), p7, hp]
              exact c0
            · exact r_pI k
end C0RUN

/-! ===== block 2: a second of the class, run ===== -/
section C2RUN
variable {fc fr f g : t2_F} {C n : Nat} {c x : Int32}
theorem c2_follow_p32 {i : Nat} (ht : 1 ≤ (f (199 + 4 * i) 2).toInt ∧ (f (199 + 4 * i) 2).toInt ≤ 32) (hv : t2_p32 (f (200 + 4 * i))) (hx : t2_pt x) : t2_p32 (c2_follow_m f i x (200 + 4 * i)) := by
  have c32 : (32 : Int32).toInt = 32 := by decide +kernel
  have c1 : (1 : Int32).toInt = 1 := by decide +kernel
  have cc : ∀ F : t2_F, (1 ≤ (F (199 + 4 * i) 2).toInt ∧ (F (199 + 4 * i) 2).toInt ≤ 32) ∧ t2_p32 (F (200 + 4 * i)) → t2_p32 (c2_cc_m F i (200 + 4 * i)) := fun F hF => by
    unfold c2_cc_m
    refine (t2_wf_I (g := fun f => c2_cc_g0 f i) (I := fun F => (1 ≤ (F (199 + 4 * i) 2).toInt ∧ (F (199 + 4 * i) 2).toInt ≤ 32) ∧ t2_p32 (F (200 + 4 * i))) (fun a b h e => ?_) 32 F hF).2
    have d := c2_cc_dec (by omega) h.2 e
    exact ⟨⟨d.1.2.1, by omega⟩, d.2 h.1.2⟩
  unfold c2_follow_m
  split
  · exact hv
  · split
    · exact hv
    · split
      · refine cc _ ⟨?_, c2_uadd_hv hv hx⟩
        unfold c2_uadd_m
        split
        · rename_i h
          rw [fl_row_self, upd_self]
          have e1 : ((f (199 + 4 * i) 2) - (1 : Int32)).toInt = (f (199 + 4 * i) 2).toInt - 1 := by rw [at_sub32 (by omega) (by omega), c1]
          rw [at_add32 (by omega) (by omega), e1, c1]
          omega
        · rename_i h
          rw [fl_row_self, upd_self, at_add32 (by omega) (by omega), c1]
          omega
      · refine cc _ ⟨?_, ?_⟩
        · rw [fl_row_ne (by omega)]
          exact ht
        · rw [fl_row_self]
          exact hv.upd hx
def c2_J (f : t2_F) : Prop := (∀ i : Nat, i < 16 → t2_p32 (f (200 + 4 * i))) ∧ ∀ k : Nat, k < 8 → 0 ≤ (f 189 ((k * 5) + 3)).toInt ∧ (f 189 ((k * 5) + 3)).toInt ≤ 29
theorem c2_J.congr (h : c2_J f) (e : ∀ p : Nat, (p = 189 ∨ (199 < p ∧ p < 262 ∧ ∀ C : Nat, p ≠ 198 + 4 * C)) → g p = f p) : c2_J g :=
  ⟨fun i hi => by rw [e _ (Or.inr ⟨by omega, by omega, fun C => by omega⟩)]; exact h.1 i hi, fun k hk => by rw [e _ (Or.inl rfl)]; exact h.2 k hk⟩
theorem c2_sKeep_J (hc : 0 ≤ (f 181 5).toInt ∧ (f 181 5).toInt ≤ 16) (hkt : ∀ i : Nat, (i : Int) < (f 181 5).toInt → (1 ≤ (f (199 + 4 * i) 2).toInt ∧ (f (199 + 4 * i) 2).toInt ≤ 32) ∧ t2_p32 (f (200 + 4 * i)) ∧ t2_pt (f (198 + 4 * i) 3)) (hj : c2_J f) : c2_J (c2_sKeep_m f) := by
  have fr : ∀ (k p : Nat), p ≠ 196 → p ≠ 197 → (p < 198 ∨ 198 + 4 * k ≤ p) → c2_sKeep_f25 f k p = f p := fun k p h16 h17 hp => by
    rw [c2_sKeep_f25_fr (k := k) (fun j hj => by omega) (fun j hj => by omega) (fun j hj => by omega) (fun j hj => by omega), c2_tadd_fr h17 h16]
  refine ⟨fun i hi => ?_, fun k hk => ?_⟩
  · by_cases hn : (i : Int) < (f 181 5).toInt
    · obtain ⟨k1, k2, k3⟩ := hkt i hn
      have at_ : ∀ k : Nat, i < k → c2_sKeep_f25 f k (200 + 4 * i) = c2_sKeep_b25_m (c2_sKeep_f25 f i) i (200 + 4 * i) := by
        intro k
        induction k with
        | zero => intro h; exact absurd h (Nat.not_lt_zero _)
        | succ k ih =>
          intro h
          by_cases e : i = k
          · subst e
            rfl
          · exact (c2_sKeep_b25_fr (f := c2_sKeep_f25 f k) (k := k) (by omega) (by omega) (by omega) (by omega)).trans (ih (by omega))
      unfold c2_sKeep_m
      rw [at_ _ (by omega)]
      unfold c2_sKeep_b25_m c2_keepTrack_m
      have r18 := fr i (198 + 4 * i) (by omega) (by omega) (by omega)
      have r19 := fr i (199 + 4 * i) (by omega) (by omega) (by omega)
      have r20 := fr i (200 + 4 * i) (by omega) (by omega) (by omega)
      refine c2_follow_p32 ?_ ?_ ?_
      · rw [fl_row_ne (by omega), r19]
        exact k1
      · rw [fl_row_ne (by omega), r20]
        exact k2
      · rw [r18]
        exact k3
    · unfold c2_sKeep_m
      rw [fr _ _ (by omega) (by omega) (by omega)]
      exact hj.1 i hi
  · unfold c2_sKeep_m
    rw [fr _ _ (by decide) (by decide) (by omega)]
    exact hj.2 k hk
theorem c2_I.hc (h : c2_I fc fr) : 0 ≤ (fc 181 5).toInt ∧ (fc 181 5).toInt ≤ 16 := by have := h.cnt; omega
theorem c2_IM.hc (h : c2_IM fc fr) : 0 ≤ (fc 181 5).toInt ∧ (fc 181 5).toInt ≤ 16 := by have := h.cnt; omega
theorem c2_IK.hc (h : c2_IK fc fr) : 0 ≤ (fc 181 5).toInt ∧ (fc 181 5).toInt ≤ 16 := by
  obtain ⟨⟨⟨h5, -⟩, -⟩, -, -, -, -, ⟨-, -, h2, -⟩, -⟩ := h
  rw [h5]
  exact h2
theorem c2_I.hk (h : c2_I fc fr) : ∀ i : Nat, (i : Int) < (fc 181 5).toInt → t2_cap (fc (198 + 4 * i) 0) := fun i hi => by
  have cn := h.cnt
  have k := h.cell (C := i) (by omega)
  rw [k.1.1.1.1]
  exact k.2.1.1
theorem c2_I.curP (h : c2_I fc fr) : ∀ p : Nat, p ≠ 181 → (∀ C : Nat, p ≠ 198 + 4 * C) → c2_letCurrent_m fc p = fc p := by
  obtain ⟨⟨⟨g5, g6, g7, g8⟩, -⟩, rs, gx, cl, ok⟩ := id h
  have hm0 : t2_lo 4 ≤ (fr 280 38).toInt ∧ (fr 280 38).toInt ≤ t2_hi 4 := ok.s (k := 4) (by decide)
  have l4 : t2_lo 4 = 1 := by decide
  have h4 : t2_hi 4 = 99999 := by decide
  obtain ⟨-, -, -, k4, -⟩ := c2_cur_eq h.rl g7 gx.1.1 ok.2.2.1 (by omega)
  exact fun p hp hC => funext (fun k => k4 p k (fun q => absurd q hp) (fun C c q => absurd q (hC C)))
theorem c2_I.balP (h : c2_I fc fr) : ∀ p : Nat, p ≠ 181 → (∀ C : Nat, p ≠ 198 + 4 * C) → c2_balance_m fc p = fc p := by
  have hh := h
  obtain ⟨⟨⟨g5, g6, g7, g8⟩, ⟨g9, g10, g11, g12⟩, g13, g14, g15, g16⟩, rs, gx, cl, ok⟩ := h
  have cn := hh.cnt
  generalize hnn : (fr 280 2).toInt.toNat = n at *
  have hM : (fc 181 5).toInt.toNat = n := by omega
  have oc : ∀ C : Nat, C < n → t2_OC (fr 280) C := fun C hC => (hh.cell (by omega)).2
  have rc : ∀ C : Nat, C < n → c2_Rc fc fr C := fun C hC => (hh.cell (by omega)).1.1
  have rb : c2_RB fc fr n := ⟨rs, fun C hC => ⟨rc C hC, by rw [(rc C hC).1.1]; exact (oc C hC).1.1, (oc C hC).1⟩, g14, g15, g11, g13, g16⟩
  have b13 : t2_lo 13 ≤ (fr 280 47).toInt ∧ (fr 280 47).toInt ≤ t2_hi 13 := ok.s (k := 13) (by decide)
  have q13 : t2_lo 13 = 0 ∧ t2_hi 13 = 16 := by decide
  have hl : fc 190 3 = fr 280 6 := gx.2.1.1.1
  obtain ⟨P, -, -, -⟩ := c2_balance_o hM hnn cn.2.1 rb hl g6 (by omega)
  exact fun p hp hC => P p hp (fun C _ => hC C)
theorem c2_I.chain (h : c2_I fc fr) (ht : (fr 280 7).toInt < 9999) :
    c2_I (c2_s1 fc) (r_t1 fr) ∧ c2_I (c2_moveBus_m (c2_s1 fc)) (r_goBus_m (r_t1 fr)) ∧ c2_I (c2_letCurrent_m (c2_moveBus_m (c2_s1 fc))) (r_goCurrent_m (r_goBus_m (r_t1 fr))) ∧
    c2_I (c2_passCells_m (c2_letCurrent_m (c2_moveBus_m (c2_s1 fc)))) (r_goCells_m (r_goCurrent_m (r_goBus_m (r_t1 fr)))) ∧ c2_I (c2_balance_m (c2_passCells_m (c2_letCurrent_m (c2_moveBus_m (c2_s1 fc))))) (r_goBalance_m (r_goCells_m (r_goCurrent_m (r_goBus_m (r_t1 fr))))) ∧
    c2_I (c2_s5 (c2_balance_m (c2_passCells_m (c2_letCurrent_m (c2_moveBus_m (c2_s1 fc)))))) (r_t5 (r_goBalance_m (r_goCells_m (r_goCurrent_m (r_goBus_m (r_t1 fr)))))) ∧ c2_IM (c2_u6 fc) (r_v6 fr) ∧
    (∃ slow : Bool, c2_so fc = (if slow = true then (32 : Int32) else (0 : Int32)) ∧ r_v6 fr 277 4 = if slow = true then 1 else 0) ∧
    (c2_IM (c2_s8 (c2_s7 (c2_so fc) (c2_u6 fc))) (r_goFaults_m (r_v6 fr)) ∧ c2_sec_v fc = r_sec_v fr) ∧ c2_IK (c2_sKeep_m (c2_s8 (c2_s7 (c2_so fc) (c2_u6 fc)))) (r_goKept_m (r_goFaults_m (r_v6 fr))) ∧
    c2_I (c2_sec_m fc) (r_sec_m fr) := by
  have c0 : (0 : Int32).toInt = 0 := rfl
  have c1 : (1 : Int32).toInt = 1 := by decide +kernel
  obtain ⟨i1, t1⟩ := h.s1 ht
  obtain ⟨i2, sv, s01, -⟩ := i1.bus
  obtain ⟨i3, w3⟩ := i2.cur
  have o1 : ∀ w : Nat, w ≠ 7 → r_t1 fr 280 w = fr 280 w := fun w hw => by unfold r_t1; rw [fl_row_self, upd_ne hw]
  have o2 : ∀ w : Nat, w ≠ 3 → w ≠ 4 → r_goBus_m (r_t1 fr) 280 w = r_t1 fr 280 w := fun w h3 h4 => by rw [r_goBus_w2, if_neg h4, if_neg h3]
  have i4 := i3.cells (fun C hC => by
    have e7 : r_goCurrent_m (r_goBus_m (r_t1 fr)) 280 7 = r_t1 fr 280 7 := by rw [w3 7 (by decide) (fun D _ => by omega), o2 7 (by decide) (by decide)]
    have e5 : r_goCurrent_m (r_goBus_m (r_t1 fr)) 280 (444 + 61 * C + 5) = fr 280 (444 + 61 * C + 5) := by rw [w3 _ (by omega) (fun D _ => by omega), o2 _ (by omega) (by omega), o1 _ (by omega)]
    have e2 : r_goCurrent_m (r_goBus_m (r_t1 fr)) 280 2 = fr 280 2 := by rw [w3 2 (by decide) (fun D _ => by omega), o2 2 (by decide) (by decide), o1 2 (by decide)]
    rw [e2] at hC
    have t := (h.cell hC).2.2.2.2.1.2
    rw [e5, e7, t1]
    omega)
  have i6 := i4.bal.s5.meas
  have f277 : r_v6 fr 277 4 = r_goBus_m (r_t1 fr) 277 4 := by
    unfold r_v6
    rw [r_goTaper_fr (by decide), r_goMeasure_fr (by decide)]
    unfold r_t5
    rw [fl_row_ne (by decide), r_balance_277 (by decide), r_goCells_fr (by decide), r_goCurrent_fr (by decide)]
  have hsl : r_v6 fr 277 4 = if (decide (r_goBus_m (r_t1 fr) 277 4 = 1)) = true then 1 else 0 := by
    rw [f277]
    rcases s01 with e | e
    · rw [e]
      decide
    · rw [e]
      decide
  have hso : c2_so fc = if (decide (r_goBus_m (r_t1 fr) 277 4 = 1)) = true then (32 : Int32) else (0 : Int32) := by
    unfold c2_so
    rw [sv]
    rcases s01 with e | e
    · rw [e]
      decide
    · rw [e]
      decide
  obtain ⟨i8, v8⟩ := i6.flt hso hsl
  exact ⟨i1, i2, i3, i4, i4.bal, i4.bal.s5, i6, ⟨_, hso, hsl⟩, ⟨i8, v8⟩, i8.kept, i8.kept.rules.s9⟩
theorem c2_u6_p (h : c2_I fc fr) (ht : (fr 280 7).toInt < 9999) {p : Nat} (h1 : p ≠ 181) (h4 : p ≠ 184) (hC : ∀ C : Nat, p ≠ 198 + 4 * C) : c2_u6 fc p = fc p := by
  obtain ⟨i1, i2, i3, i4, i5, i6, -⟩ := h.chain ht
  unfold c2_u6
  rw [(c2_measure_o (n := (c2_s5 (c2_balance_m (c2_passCells_m (c2_letCurrent_m (c2_moveBus_m (c2_s1 fc))))) 181 5).toInt.toNat) rfl).1 p h1 h4 (fun C _ => hC C)]
  have e5 : ∀ f : t2_F, c2_s5 f p = f p := fun f => fl_row_ne h1
  rw [e5, i4.balP p h1 hC, c2_cells_p (Or.inr (fun C _ => hC C)) (by have := i3.hc; omega), i2.curP p h1 hC, c2_moveBus_fr h1]
  exact fl_row_ne h1
theorem c2_s8_p {so : Int32} {p : Nat} (h1 : p ≠ 181) (h7 : p < 190 ∨ 195 ≤ p) : c2_s8 (c2_s7 so f) p = f p := by
  have P7 : c2_s7 so f p = f p := by
    unfold c2_s7
    rw [c2_latch_fr (by omega) (by omega) (by omega) (by omega), c2_faultsOfPack_fr (by omega), c2_faultsOfCells_fr (by omega)]
  unfold c2_s8
  split
  · exact P7
  · rw [fl_row_ne h1, P7]
theorem c2_kt (h : c2_IM f fr) (hj : c2_J f) : ∀ i : Nat, (i : Int) < (f 181 5).toInt → (1 ≤ (f (199 + 4 * i) 2).toInt ∧ (f (199 + 4 * i) 2).toInt ≤ 32) ∧ t2_p32 (f (200 + 4 * i)) ∧ t2_pt (f (198 + 4 * i) 3) := fun i hi => by
  have cn := h.cnt
  obtain ⟨⟨ra, -, -, -, ti⟩, oc⟩ := h.cell (C := i) (by omega)
  refine ⟨by rw [ti.1]; exact ti.2.2.2.1, hj.1 i (by omega), ?_⟩
  have pb := t2_ckp oc.1
  have e : f (198 + 4 * i) 3 = ((((1000 : Int64) * (fr 280 (444 + 61 * i + 1)).toInt64) / ((3600 : Int32) * (fr 280 (444 + 61 * i + 0))).toInt64).toInt32) := ra.2.1.1
  rw [e]
  exact ⟨pb.1, by omega⟩
theorem c2_J.u6 (h : c2_I fc fr) (ht : (fr 280 7).toInt < 9999) (hj : c2_J fc) : c2_J (c2_s8 (c2_s7 (c2_so fc) (c2_u6 fc))) := hj.congr (fun p hp => by rw [c2_s8_p (by omega) (by omega), c2_u6_p h ht (by omega) (by omega) (fun C => by rcases hp with e | ⟨-, -, e⟩; omega; exact e C)])
theorem c2_J.sec (h : c2_I fc fr) (ht : (fr 280 7).toInt < 9999) (hj : c2_J fc) : c2_J (c2_sec_m fc) := by
  obtain ⟨-, -, -, -, -, -, -, -, ⟨i8, -⟩, -, -⟩ := h.chain ht
  have j8 := hj.u6 h ht
  have jk := c2_sKeep_J i8.hc (c2_kt i8 j8) j8
  unfold c2_sec_m c2_s9
  exact jk.congr (fun p hp => by rw [fl_row_ne (by omega), c2_obeyRules_fr (by omega)])
theorem c2_sec_q {L : Nat} {xs : Nat → Int32} {l : t2_L} {Q : Option fl_V → fl_M → Prop} (h : c2_I fc fr) (ht : (fr 280 7).toInt < 9999) (hj : c2_J fc) (k : Q (some (.inl (c2_sec_v fc))) (c2_sec_m fc, l)) : fl_Tq (pw_P L xs) 57 0 (fl_args (am_mxl (pw_P L xs) 57) [.inr (.inr (.inl (49, 181)))]) [] (fc, l) Q := by
  obtain ⟨i1, i2, i3, i4, i5, i6, im, -, ⟨i8, -⟩, ik, -⟩ := h.chain ht
  have j8 := hj.u6 h ht
  have jk := c2_sKeep_J i8.hc (c2_kt i8 j8) j8
  have b13 := i4.2.2.2.2.s (k := 13) (by decide)
  have q13 : t2_lo 13 = 0 ∧ t2_hi 13 = 16 := by decide
  have s13 : c2_passCells_m (c2_letCurrent_m (c2_moveBus_m (c2_s1 fc))) 184 13 = _ := i4.2.1 13 (by decide)
  have tm : c2_faultsOfPack_m (c2_faultsOfCells_m (c2_u6 fc)) 181 6 = c2_u6 fc 181 6 := by rw [c2_faultsOfPack_fr (by decide), c2_faultsOfCells_fr (by decide)]
  show fl_Tq (pw_P L xs) 57 0 [some (.inr (.inr (.inl (49, 181)))), none, none] [] (fc, l) Q
  refine c2_pA ?_
  refine c2_pB (f := c2_s1 fc) i1.hc ?_
  refine c2_pC1 (so := c2_so fc) i2.hc (by rw [i2.2.2.1.1.2.1.1]; exact i2.2.2.2.2.2.2.2.1.1) ?_
  refine c2_pC2 i3.hc i3.hk ?_
  refine c2_pC3 i4.hc i4.hk (by rw [s13]; omega) ?_
  refine c2_pD ?_
  refine c2_pE (f := c2_s5 (c2_balance_m (c2_passCells_m (c2_letCurrent_m (c2_moveBus_m (c2_s1 fc)))))) i6.hc ?_
  refine c2_pF (f := c2_u6 fc) im.hc (by rw [c2_faultsOfCells_fr (by decide)]; exact im.hc) ?_ ?_
  · rw [c2_faultsOfPack_fr (by decide), c2_faultsOfCells_fr (by decide)]
    obtain ⟨-, -, ⟨-, ⟨-, -, -, bk⟩, -⟩, -⟩ := im
    exact ⟨bk.1, bk.2.1, by rw [bk.2.2.1]; exact bk.2.2.2.1⟩
  · rw [tm]
    have K : fl_Tq (pw_P L xs) 57 111 [some (.inr (.inr (.inl (49, 181)))), some (.inl (c2_so fc)), some (.inl (c2_sec_v fc))] [] (c2_s8 (c2_s7 (c2_so fc) (c2_u6 fc)), l) Q := by
      refine c2_pH1 i8.hc (c2_kt i8 j8) ?_ ?_
      · obtain ⟨-, -, ⟨-, -, tr, -⟩, -⟩ := i8
        exact ⟨tr.1, tr.2.1, by rw [tr.2.2.1]; exact tr.2.2.2.1⟩
      · refine c2_pH2 ik.hc (by rw [ik.2.2.1.1.2.2.1.1]; exact ik.2.2.1.1.2.2.1.2.1) jk.2 ?_
        exact c2_pI k
    refine c2_pG (f := c2_s7 (c2_so fc) (c2_u6 fc)) (fun e => ?_) (fun e => ?_)
    · have e8 : c2_s8 (c2_s7 (c2_so fc) (c2_u6 fc)) = c2_s7 (c2_so fc) (c2_u6 fc) := if_pos e
      rw [e8] at K
      exact K
    · have e8 : c2_s8 (c2_s7 (c2_so fc) (c2_u6 fc)) = fl_row (c2_s7 (c2_so fc) (c2_u6 fc)) 181 (upd ((c2_s7 (c2_so fc) (c2_u6 fc)) 181) 7 (0 : Int32)) := if_neg e
      rw [e8] at K
      exact K
theorem c2_I.rhu (h : c2_I fc fr) : (0 ≤ (fr 280 2).toInt ∧ (fr 280 2).toInt ≤ 16) ∧ ∀ C : Nat, (C : Int) < (fr 280 2).toInt → t2_ck fr C := ⟨h.2.2.2.2.2.1.2.2.1, fun C hC => (h.2.2.2.2.2.2.2.2.2.2.2 C hC).1⟩
theorem c2_IM.rhu (h : c2_IM fc fr) : (0 ≤ (fr 280 2).toInt ∧ (fr 280 2).toInt ≤ 16) ∧ ∀ C : Nat, (C : Int) < (fr 280 2).toInt → t2_ck fr C := ⟨h.2.2.2.2.2.1.2.2.1, fun C hC => (h.2.2.2.2.2.2.2.2.2.2.2 C hC).1⟩
theorem c2_IK.rhu (h : c2_IK fc fr) : (0 ≤ (fr 280 2).toInt ∧ (fr 280 2).toInt ≤ 16) ∧ ∀ C : Nat, (C : Int) < (fr 280 2).toInt → t2_ck fr C := ⟨h.2.2.2.2.2.1.2.2.1, fun C hC => (h.2.2.2.2.2.2.2.2.2.2.2 C hC).1⟩
theorem c2_I.p277 (h : c2_I fc fr) (ht : (fr 280 7).toInt < 9999) {j : Nat} (h4 : j ≠ 4) (h6 : j ≠ 6) : r_w6 fr 277 j = fr 277 j ∧ r_v6 fr 277 j = fr 277 j ∧ r_sec_m fr 277 j = fr 277 j := by
  obtain ⟨i1, -⟩ := h.s1 ht
  obtain ⟨-, -, -, sl⟩ := i1.bus
  have e6 : r_w6 fr 277 j = fr 277 j := by
    unfold r_w6
    rw [r_goMeasure_fr (by decide)]
    unfold r_t5
    rw [fl_row_ne (by decide), r_balance_277 h6, r_goCells_fr (by decide), r_goCurrent_fr (by decide), sl j h4]
    unfold r_t1
    rw [fl_row_ne (by decide)]
  have e7 : r_v6 fr 277 j = fr 277 j := by
    rw [r_v6_w, r_goTaper_fr (by decide), e6]
  refine ⟨e6, e7, ?_⟩
  unfold r_sec_m
  rw [r_goRules_fr (by decide), r_kept_p (by decide), r_goFaults_fr (by decide), e7]
theorem c2_rsec_q {L : Nat} {xs : Nat → Int32} {l : t2_L} {Q : Option fl_V → fl_M → Prop} (h : c2_I fc fr) (ht : (fr 280 7).toInt < 9999) (hr : t2_RS fr) (hp : fr 277 7 = 0) (k : Q (some (.inl (r_sec_v fr))) (r_sec_m fr, l)) : fl_Tq (pw_P L xs) 237 0 (fl_args (am_mxl (pw_P L xs) 237) [.inr (.inr (.inl (76, 277)))]) [] (fr, l) Q := by
  have c0 : (0 : Int32).toInt = 0 := rfl
  obtain ⟨i1, i2, i3, i4, i5, i6, im, ⟨slow, -, hsl⟩, ⟨i8, -⟩, ik, -⟩ := h.chain ht
  obtain ⟨p6, p7, ps⟩ := h.p277 ht (j := 7) (by decide) (by decide)
  have b24 := i3.2.2.2.2.s (k := 24) (by decide)
  have q24 : t2_lo 24 = 0 ∧ t2_hi 24 = 9999 ∧ t2_lo 13 = 0 ∧ t2_hi 13 = 16 := by decide
  have b13 := i4.2.2.2.2.s (k := 13) (by decide)
  have R1 : t2_RS (r_t1 fr) := hr.same (fl_row_ne (by decide))
  have R2 : t2_RS (r_goBus_m (r_t1 fr)) := R1.same (r_goBus_fr (by decide) (by decide))
  have R3 : t2_RS (r_goCurrent_m (r_goBus_m (r_t1 fr))) := R2.same (r_goCurrent_fr (by decide))
  have R6 : t2_RS (r_t5 (r_goBalance_m (r_goCells_m (r_goCurrent_m (r_goBus_m (r_t1 fr)))))) := R3.same (by unfold r_t5; rw [fl_row_ne (by decide), r_goBalance_fr (by decide) (by decide) (by decide), r_goCells_fr (by decide)])
  have RW : t2_RS (r_w6 fr) := R6.same (r_goMeasure_fr (by decide))
  have R7 : t2_RS (r_v6 fr) := RW.same (by rw [r_v6_w, r_goTaper_fr (by decide)])
  have R8 : t2_RS (r_goFaults_m (r_v6 fr)) := R7.same (r_goFaults_fr (by decide))
  have R9 : t2_RS (r_goKept_m (r_goFaults_m (r_v6 fr))) := R8.same (r_kept_p (by decide))
  have W6 : ∀ w : Nat, (w = 2 ∨ ∃ C : Nat, w = 444 + 61 * C + 0 ∨ w = 444 + 61 * C + 1) → r_w6 fr 280 w = r_t5 (r_goBalance_m (r_goCells_m (r_goCurrent_m (r_goBus_m (r_t1 fr))))) 280 w := fun w hw => by
    unfold r_w6
    rcases hw with e | ⟨C, e | e⟩
    · rw [e, r_meas_mid (by decide), r_mid_lo (by decide) (by decide) (by decide)]
    · rw [e, r_meas_mid (by omega), r_mid_s (by omega)]
    · rw [e, r_meas_mid (by omega), r_mid_s (by omega)]
  have u6 := i6.rhu
  show fl_Tq (pw_P L xs) 237 0 [some (.inr (.inr (.inl (76, 277)))), none] [] (fr, l) Q
  refine r_pA ?_
  refine r_pB1 (f := r_t1 fr) i1.rhu.1 R1 i1.rhu.2 ?_
  refine r_pB2 i2.rhu.1 R2 i2.rhu.2 i2.2.2.2.2.2.2.2.1.1 ?_
  refine r_pB3 i3.rhu.1 ?_ ?_
  · have b : t2_lo 24 ≤ (r_goCurrent_m (r_goBus_m (r_t1 fr)) 280 58).toInt ∧ (r_goCurrent_m (r_goBus_m (r_t1 fr)) 280 58).toInt ≤ t2_hi 24 := b24
    have c36 : (3600 : Int32).toInt = 3600 := by decide +kernel
    rw [at_mul32] <;> rw [c36] <;> omega
  · refine r_pB4 i4.rhu.1 i4.rhu.2 ?_ ?_
    · have b : t2_lo 13 ≤ (r_goCells_m (r_goCurrent_m (r_goBus_m (r_t1 fr))) 280 47).toInt ∧ (r_goCells_m (r_goCurrent_m (r_goBus_m (r_t1 fr))) 280 47).toInt ≤ t2_hi 13 := b13
      omega
    · refine r_pC ?_
      refine r_pD (f := r_t5 (r_goBalance_m (r_goCells_m (r_goCurrent_m (r_goBus_m (r_t1 fr)))))) u6.1 R6 u6.2 (fun C hC => (i6.2.2.2.2.2.2.2.2.2.2.2 C hC).2.2.2.2.2.2.1) ?_
      refine r_pE (f := r_w6 fr) (by rw [W6 2 (Or.inl rfl)]; exact u6.1) RW (fun C hC => ?_) (by rw [p6, hp]; exact c0) ?_
      · rw [W6 2 (Or.inl rfl)] at hC
        have ck := u6.2 C hC
        unfold t2_ck
        rw [W6 (444 + 61 * C + 0) (Or.inr ⟨C, Or.inl rfl⟩), W6 (444 + 61 * C + 1) (Or.inr ⟨C, Or.inr rfl⟩)]
        exact ck
      · refine r_pF (f := r_v6 fr) im.rhu.1 R7 im.rhu.2 ?_ im.2.2.2.2.2.2.2.2.2.2.1.2.1 ?_
        · rw [hsl]
          cases slow
          · exact Or.inl rfl
          · exact Or.inr rfl
        · refine r_pG (mo := r_sec_v fr) i8.rhu.1 R8 i8.rhu.2 i8.2.2.2.2.2.2.2.2.2.2.1.2.2 (fun C hC => ?_) ?_
          · have a := (i8.2.2.2.2.2.2.2.2.2.2.2 C hC).2.2.2.2.2.2.2
            exact ⟨a.1, a.2.1⟩
          · refine r_pH ik.rhu.1 R9 ik.rhu.2 ik.2.2.2.2.2.2.2.2.1.1 ik.2.2.2.2.2.2.2.2.1.2.1 ?_ ?_
            · rw [r_kept_p (by decide), r_goFaults_fr (by decide), p7, hp]
              exact c0
            · exact r_pI k
end C2RUN

end

/-! 94.30.g17.lean.txt -/
section
theorem c0_secsA {L : Nat} {xs : Nat → Int32} {f : t2_F} {l : t2_L} {Q : Option fl_V → fl_M → Prop} {n : Int32}  (k : fl_Tq (pw_P L xs) 55 4 [some (.inr (.inr (.inl (1, 1)))), some (.inl n), some (.inl (0 : Int32)), some (.inl (0 : Int32))] [] (f, l) Q) : fl_Tq (pw_P L xs) 55 0 [some (.inr (.inr (.inl (1, 1)))), some (.inl n), none, none] [] (f, l) Q := by
  refine fl_Tq.cI (c := (0 : Int32)) rfl (by decide +kernel) (fl_bo rfl) ?_
  refine fl_Tq.stp (pc' := 2) (lv' := [some (.inr (.inr (.inl (1, 1)))), some (.inl n), some (.inl (0 : Int32)), none]) (st' := []) (m' := (f, l)) rfl rfl (fl_bo rfl) rfl ?_
  refine fl_Tq.cI (c := (0 : Int32)) rfl (by decide +kernel) (fl_bo rfl) ?_
  refine fl_Tq.stp (pc' := 4) (lv' := [some (.inr (.inr (.inl (1, 1)))), some (.inl n), some (.inl (0 : Int32)), some (.inl (0 : Int32))]) (st' := []) (m' := (f, l)) rfl rfl (fl_bo rfl) rfl ?_
  exact k
theorem c0_secsB {L : Nat} {xs : Nat → Int32} {f : t2_F} {l : t2_L} {Q : Option fl_V → fl_M → Prop} {n more : Int32} {j : Nat} {fr : t2_F} (h : c0_I f fr) (ht : (fr 280 7).toInt < 9999) (hj : c0_J f) (hk : (Int32.ofNat j).toInt < n.toInt) (k : fl_Tq (pw_P L xs) 55 4 [some (.inr (.inr (.inl (1, 1)))), some (.inl n), some (.inl (more + (c0_sec_v f))), some (.inl ((Int32.ofNat j) + (1 : Int32)))] [] (c0_sec_m f, l) Q) : fl_Tq (pw_P L xs) 55 4 [some (.inr (.inr (.inl (1, 1)))), some (.inl n), some (.inl more), some (.inl (Int32.ofNat j))] [] (f, l) Q := by
  refine fl_Tq.stp (pc' := 5) (lv' := [some (.inr (.inr (.inl (1, 1)))), some (.inl n), some (.inl more), some (.inl (Int32.ofNat j))]) (st' := [.inl (Int32.ofNat j)]) (m' := (f, l)) rfl rfl (fl_bo rfl) rfl ?_
  refine fl_Tq.stp (pc' := 6) (lv' := [some (.inr (.inr (.inl (1, 1)))), some (.inl n), some (.inl more), some (.inl (Int32.ofNat j))]) (st' := [.inl n, .inl (Int32.ofNat j)]) (m' := (f, l)) rfl rfl (fl_bo rfl) rfl ?_
  refine fl_Tq.jf rfl (fl_bo rfl) (c2_ge_f hk) rfl ?_
  refine fl_Tq.stp (pc' := 10) (lv' := [some (.inr (.inr (.inl (1, 1)))), some (.inl n), some (.inl more), some (.inl (Int32.ofNat j))]) (st' := [.inl more]) (m' := (f, l)) rfl rfl (fl_bo rfl) rfl ?_
  refine fl_Tq.stp (pc' := 11) (lv' := [some (.inr (.inr (.inl (1, 1)))), some (.inl n), some (.inl more), some (.inl (Int32.ofNat j))]) (st' := [.inr (.inr (.inl (1, 1))), .inl more]) (m' := (f, l)) rfl rfl (fl_bo rfl) rfl ?_
  refine fl_Tq.cal rfl rfl (fl_bo rfl) rfl ?_
  refine c0_sec_q h ht hj ?_
  show fl_Tq _ 55 14 [some (.inr (.inr (.inl (1, 1)))), some (.inl n), some (.inl more), some (.inl (Int32.ofNat j))] [.inl (c0_sec_v f), .inl more] (c0_sec_m f, l) _
  refine fl_Tq.stp (pc' := 15) (lv' := [some (.inr (.inr (.inl (1, 1)))), some (.inl n), some (.inl more), some (.inl (Int32.ofNat j))]) (st' := [.inl (more + (c0_sec_v f))]) (m' := (c0_sec_m f, l)) rfl rfl (fl_bo rfl) rfl ?_
  refine fl_Tq.stp (pc' := 16) (lv' := [some (.inr (.inr (.inl (1, 1)))), some (.inl n), some (.inl (more + (c0_sec_v f))), some (.inl (Int32.ofNat j))]) (st' := []) (m' := (c0_sec_m f, l)) rfl rfl (fl_bo rfl) rfl ?_
  refine fl_Tq.stp (pc' := 19) (lv' := [some (.inr (.inr (.inl (1, 1)))), some (.inl n), some (.inl (more + (c0_sec_v f))), some (.inl ((Int32.ofNat j) + (1 : Int32)))]) (st' := []) (m' := (c0_sec_m f, l)) rfl rfl (fl_bo rfl) rfl ?_
  refine fl_Tq.stp (pc' := 4) (lv' := [some (.inr (.inr (.inl (1, 1)))), some (.inl n), some (.inl (more + (c0_sec_v f))), some (.inl ((Int32.ofNat j) + (1 : Int32)))]) (st' := []) (m' := (c0_sec_m f, l)) rfl rfl (fl_bo rfl) rfl ?_
  exact k
theorem c0_secsC {L : Nat} {xs : Nat → Int32} {f : t2_F} {l : t2_L} {Q : Option fl_V → fl_M → Prop} {n more : Int32} {j : Nat} (hk : ¬ ((Int32.ofNat j).toInt < n.toInt)) (k : Q (some (.inl more)) (f, l)) : fl_Tq (pw_P L xs) 55 4 [some (.inr (.inr (.inl (1, 1)))), some (.inl n), some (.inl more), some (.inl (Int32.ofNat j))] [] (f, l) Q := by
  refine fl_Tq.stp (pc' := 5) (lv' := [some (.inr (.inr (.inl (1, 1)))), some (.inl n), some (.inl more), some (.inl (Int32.ofNat j))]) (st' := [.inl (Int32.ofNat j)]) (m' := (f, l)) rfl rfl (fl_bo rfl) rfl ?_
  refine fl_Tq.stp (pc' := 6) (lv' := [some (.inr (.inr (.inl (1, 1)))), some (.inl n), some (.inl more), some (.inl (Int32.ofNat j))]) (st' := [.inl n, .inl (Int32.ofNat j)]) (m' := (f, l)) rfl rfl (fl_bo rfl) rfl ?_
  refine fl_Tq.jt rfl (fl_bo rfl) (c2_ge_t hk) rfl ?_
  refine fl_Tq.stp (pc' := 23) (lv' := [some (.inr (.inr (.inl (1, 1)))), some (.inl n), some (.inl more), some (.inl (Int32.ofNat j))]) (st' := [.inl more]) (m' := (f, l)) rfl rfl (fl_bo rfl) rfl ?_
  exact fl_Tq.ret rfl rfl rfl k
theorem c2_secsA {L : Nat} {xs : Nat → Int32} {f : t2_F} {l : t2_L} {Q : Option fl_V → fl_M → Prop} {n : Int32}  (k : fl_Tq (pw_P L xs) 55 4 [some (.inr (.inr (.inl (49, 181)))), some (.inl n), some (.inl (0 : Int32)), some (.inl (0 : Int32))] [] (f, l) Q) : fl_Tq (pw_P L xs) 55 0 [some (.inr (.inr (.inl (49, 181)))), some (.inl n), none, none] [] (f, l) Q := by
  refine fl_Tq.cI (c := (0 : Int32)) rfl (by decide +kernel) (fl_bo rfl) ?_
  refine fl_Tq.stp (pc' := 2) (lv' := [some (.inr (.inr (.inl (49, 181)))), some (.inl n), some (.inl (0 : Int32)), none]) (st' := []) (m' := (f, l)) rfl rfl (fl_bo rfl) rfl ?_
  refine fl_Tq.cI (c := (0 : Int32)) rfl (by decide +kernel) (fl_bo rfl) ?_
  refine fl_Tq.stp (pc' := 4) (lv' := [some (.inr (.inr (.inl (49, 181)))), some (.inl n), some (.inl (0 : Int32)), some (.inl (0 : Int32))]) (st' := []) (m' := (f, l)) rfl rfl (fl_bo rfl) rfl ?_
  exact k
theorem c2_secsB {L : Nat} {xs : Nat → Int32} {f : t2_F} {l : t2_L} {Q : Option fl_V → fl_M → Prop} {n more : Int32} {j : Nat} {fr : t2_F} (h : c2_I f fr) (ht : (fr 280 7).toInt < 9999) (hj : c2_J f) (hk : (Int32.ofNat j).toInt < n.toInt) (k : fl_Tq (pw_P L xs) 55 4 [some (.inr (.inr (.inl (49, 181)))), some (.inl n), some (.inl (more + (c2_sec_v f))), some (.inl ((Int32.ofNat j) + (1 : Int32)))] [] (c2_sec_m f, l) Q) : fl_Tq (pw_P L xs) 55 4 [some (.inr (.inr (.inl (49, 181)))), some (.inl n), some (.inl more), some (.inl (Int32.ofNat j))] [] (f, l) Q := by
  refine fl_Tq.stp (pc' := 5) (lv' := [some (.inr (.inr (.inl (49, 181)))), some (.inl n), some (.inl more), some (.inl (Int32.ofNat j))]) (st' := [.inl (Int32.ofNat j)]) (m' := (f, l)) rfl rfl (fl_bo rfl) rfl ?_
  refine fl_Tq.stp (pc' := 6) (lv' := [some (.inr (.inr (.inl (49, 181)))), some (.inl n), some (.inl more), some (.inl (Int32.ofNat j))]) (st' := [.inl n, .inl (Int32.ofNat j)]) (m' := (f, l)) rfl rfl (fl_bo rfl) rfl ?_
  refine fl_Tq.jf rfl (fl_bo rfl) (c2_ge_f hk) rfl ?_
  refine fl_Tq.stp (pc' := 10) (lv' := [some (.inr (.inr (.inl (49, 181)))), some (.inl n), some (.inl more), some (.inl (Int32.ofNat j))]) (st' := [.inl more]) (m' := (f, l)) rfl rfl (fl_bo rfl) rfl ?_
  refine fl_Tq.stp (pc' := 11) (lv' := [some (.inr (.inr (.inl (49, 181)))), some (.inl n), some (.inl more), some (.inl (Int32.ofNat j))]) (st' := [.inr (.inr (.inl (49, 181))), .inl more]) (m' := (f, l)) rfl rfl (fl_bo rfl) rfl ?_
  refine fl_Tq.cal rfl rfl (fl_bo rfl) rfl ?_
  refine c2_sec_q h ht hj ?_
  show fl_Tq _ 55 14 [some (.inr (.inr (.inl (49, 181)))), some (.inl n), some (.inl more), some (.inl (Int32.ofNat j))] [.inl (c2_sec_v f), .inl more] (c2_sec_m f, l) _
  refine fl_Tq.stp (pc' := 15) (lv' := [some (.inr (.inr (.inl (49, 181)))), some (.inl n), some (.inl more), some (.inl (Int32.ofNat j))]) (st' := [.inl (more + (c2_sec_v f))]) (m' := (c2_sec_m f, l)) rfl rfl (fl_bo rfl) rfl ?_
  refine fl_Tq.stp (pc' := 16) (lv' := [some (.inr (.inr (.inl (49, 181)))), some (.inl n), some (.inl (more + (c2_sec_v f))), some (.inl (Int32.ofNat j))]) (st' := []) (m' := (c2_sec_m f, l)) rfl rfl (fl_bo rfl) rfl ?_
  refine fl_Tq.stp (pc' := 19) (lv' := [some (.inr (.inr (.inl (49, 181)))), some (.inl n), some (.inl (more + (c2_sec_v f))), some (.inl ((Int32.ofNat j) + (1 : Int32)))]) (st' := []) (m' := (c2_sec_m f, l)) rfl rfl (fl_bo rfl) rfl ?_
  refine fl_Tq.stp (pc' := 4) (lv' := [some (.inr (.inr (.inl (49, 181)))), some (.inl n), some (.inl (more + (c2_sec_v f))), some (.inl ((Int32.ofNat j) + (1 : Int32)))]) (st' := []) (m' := (c2_sec_m f, l)) rfl rfl (fl_bo rfl) rfl ?_
  exact k
theorem c2_secsC {L : Nat} {xs : Nat → Int32} {f : t2_F} {l : t2_L} {Q : Option fl_V → fl_M → Prop} {n more : Int32} {j : Nat} (hk : ¬ ((Int32.ofNat j).toInt < n.toInt)) (k : Q (some (.inl more)) (f, l)) : fl_Tq (pw_P L xs) 55 4 [some (.inr (.inr (.inl (49, 181)))), some (.inl n), some (.inl more), some (.inl (Int32.ofNat j))] [] (f, l) Q := by
  refine fl_Tq.stp (pc' := 5) (lv' := [some (.inr (.inr (.inl (49, 181)))), some (.inl n), some (.inl more), some (.inl (Int32.ofNat j))]) (st' := [.inl (Int32.ofNat j)]) (m' := (f, l)) rfl rfl (fl_bo rfl) rfl ?_
  refine fl_Tq.stp (pc' := 6) (lv' := [some (.inr (.inr (.inl (49, 181)))), some (.inl n), some (.inl more), some (.inl (Int32.ofNat j))]) (st' := [.inl n, .inl (Int32.ofNat j)]) (m' := (f, l)) rfl rfl (fl_bo rfl) rfl ?_
  refine fl_Tq.jt rfl (fl_bo rfl) (c2_ge_t hk) rfl ?_
  refine fl_Tq.stp (pc' := 23) (lv' := [some (.inr (.inr (.inl (49, 181)))), some (.inl n), some (.inl more), some (.inl (Int32.ofNat j))]) (st' := [.inl more]) (m' := (f, l)) rfl rfl (fl_bo rfl) rfl ?_
  exact fl_Tq.ret rfl rfl rfl k
theorem r_secsA {L : Nat} {xs : Nat → Int32} {f : t2_F} {l : t2_L} {Q : Option fl_V → fl_M → Prop} {n : Int32}  (k : fl_Tq (pw_P L xs) 248 4 [some (.inr (.inr (.inl (76, 277)))), some (.inl n), some (.inl (0 : Int32)), some (.inl (0 : Int32))] [] (f, l) Q) : fl_Tq (pw_P L xs) 248 0 [some (.inr (.inr (.inl (76, 277)))), some (.inl n), none, none] [] (f, l) Q := by
  refine fl_Tq.cI (c := (0 : Int32)) rfl (by decide +kernel) (fl_bo rfl) ?_
  refine fl_Tq.stp (pc' := 2) (lv' := [some (.inr (.inr (.inl (76, 277)))), some (.inl n), some (.inl (0 : Int32)), none]) (st' := []) (m' := (f, l)) rfl rfl (fl_bo rfl) rfl ?_
  refine fl_Tq.cI (c := (0 : Int32)) rfl (by decide +kernel) (fl_bo rfl) ?_
  refine fl_Tq.stp (pc' := 4) (lv' := [some (.inr (.inr (.inl (76, 277)))), some (.inl n), some (.inl (0 : Int32)), some (.inl (0 : Int32))]) (st' := []) (m' := (f, l)) rfl rfl (fl_bo rfl) rfl ?_
  exact k
theorem r_secsB {L : Nat} {xs : Nat → Int32} {f : t2_F} {l : t2_L} {Q : Option fl_V → fl_M → Prop} {n more : Int32} {j : Nat} {fc : t2_F} (h : c0_I fc f) (ht : (f 280 7).toInt < 9999) (hr : t2_RS f) (hp : f 277 7 = 0) (hk : (Int32.ofNat j).toInt < n.toInt) (k : fl_Tq (pw_P L xs) 248 4 [some (.inr (.inr (.inl (76, 277)))), some (.inl n), some (.inl (more + (r_sec_v f))), some (.inl ((Int32.ofNat j) + (1 : Int32)))] [] (r_sec_m f, l) Q) : fl_Tq (pw_P L xs) 248 4 [some (.inr (.inr (.inl (76, 277)))), some (.inl n), some (.inl more), some (.inl (Int32.ofNat j))] [] (f, l) Q := by
  refine fl_Tq.stp (pc' := 5) (lv' := [some (.inr (.inr (.inl (76, 277)))), some (.inl n), some (.inl more), some (.inl (Int32.ofNat j))]) (st' := [.inl (Int32.ofNat j)]) (m' := (f, l)) rfl rfl (fl_bo rfl) rfl ?_
  refine fl_Tq.stp (pc' := 6) (lv' := [some (.inr (.inr (.inl (76, 277)))), some (.inl n), some (.inl more), some (.inl (Int32.ofNat j))]) (st' := [.inl n, .inl (Int32.ofNat j)]) (m' := (f, l)) rfl rfl (fl_bo rfl) rfl ?_
  refine fl_Tq.jf rfl (fl_bo rfl) (c2_ge_f hk) rfl ?_
  refine fl_Tq.stp (pc' := 10) (lv' := [some (.inr (.inr (.inl (76, 277)))), some (.inl n), some (.inl more), some (.inl (Int32.ofNat j))]) (st' := [.inl more]) (m' := (f, l)) rfl rfl (fl_bo rfl) rfl ?_
  refine fl_Tq.stp (pc' := 11) (lv' := [some (.inr (.inr (.inl (76, 277)))), some (.inl n), some (.inl more), some (.inl (Int32.ofNat j))]) (st' := [.inr (.inr (.inl (76, 277))), .inl more]) (m' := (f, l)) rfl rfl (fl_bo rfl) rfl ?_
  refine fl_Tq.cal rfl rfl (fl_bo rfl) rfl ?_
  refine c0_rsec_q h ht hr hp ?_
  show fl_Tq _ 248 14 [some (.inr (.inr (.inl (76, 277)))), some (.inl n), some (.inl more), some (.inl (Int32.ofNat j))] [.inl (r_sec_v f), .inl more] (r_sec_m f, l) _
  refine fl_Tq.stp (pc' := 15) (lv' := [some (.inr (.inr (.inl (76, 277)))), some (.inl n), some (.inl more), some (.inl (Int32.ofNat j))]) (st' := [.inl (more + (r_sec_v f))]) (m' := (r_sec_m f, l)) rfl rfl (fl_bo rfl) rfl ?_
  refine fl_Tq.stp (pc' := 16) (lv' := [some (.inr (.inr (.inl (76, 277)))), some (.inl n), some (.inl (more + (r_sec_v f))), some (.inl (Int32.ofNat j))]) (st' := []) (m' := (r_sec_m f, l)) rfl rfl (fl_bo rfl) rfl ?_
  refine fl_Tq.stp (pc' := 19) (lv' := [some (.inr (.inr (.inl (76, 277)))), some (.inl n), some (.inl (more + (r_sec_v f))), some (.inl ((Int32.ofNat j) + (1 : Int32)))]) (st' := []) (m' := (r_sec_m f, l)) rfl rfl (fl_bo rfl) rfl ?_
  refine fl_Tq.stp (pc' := 4) (lv' := [some (.inr (.inr (.inl (76, 277)))), some (.inl n), some (.inl (more + (r_sec_v f))), some (.inl ((Int32.ofNat j) + (1 : Int32)))]) (st' := []) (m' := (r_sec_m f, l)) rfl rfl (fl_bo rfl) rfl ?_
  exact k
theorem r_secsC {L : Nat} {xs : Nat → Int32} {f : t2_F} {l : t2_L} {Q : Option fl_V → fl_M → Prop} {n more : Int32} {j : Nat} (hk : ¬ ((Int32.ofNat j).toInt < n.toInt)) (k : Q (some (.inl more)) (f, l)) : fl_Tq (pw_P L xs) 248 4 [some (.inr (.inr (.inl (76, 277)))), some (.inl n), some (.inl more), some (.inl (Int32.ofNat j))] [] (f, l) Q := by
  refine fl_Tq.stp (pc' := 5) (lv' := [some (.inr (.inr (.inl (76, 277)))), some (.inl n), some (.inl more), some (.inl (Int32.ofNat j))]) (st' := [.inl (Int32.ofNat j)]) (m' := (f, l)) rfl rfl (fl_bo rfl) rfl ?_
  refine fl_Tq.stp (pc' := 6) (lv' := [some (.inr (.inr (.inl (76, 277)))), some (.inl n), some (.inl more), some (.inl (Int32.ofNat j))]) (st' := [.inl n, .inl (Int32.ofNat j)]) (m' := (f, l)) rfl rfl (fl_bo rfl) rfl ?_
  refine fl_Tq.jt rfl (fl_bo rfl) (c2_ge_t hk) rfl ?_
  refine fl_Tq.stp (pc' := 23) (lv' := [some (.inr (.inr (.inl (76, 277)))), some (.inl n), some (.inl more), some (.inl (Int32.ofNat j))]) (st' := [.inl more]) (m' := (f, l)) rfl rfl (fl_bo rfl) rfl ?_
  exact fl_Tq.ret rfl rfl rfl k
theorem r2_secsA {L : Nat} {xs : Nat → Int32} {f : t2_F} {l : t2_L} {Q : Option fl_V → fl_M → Prop} {n : Int32}  (k : fl_Tq (pw_P L xs) 248 4 [some (.inr (.inr (.inl (76, 277)))), some (.inl n), some (.inl (0 : Int32)), some (.inl (0 : Int32))] [] (f, l) Q) : fl_Tq (pw_P L xs) 248 0 [some (.inr (.inr (.inl (76, 277)))), some (.inl n), none, none] [] (f, l) Q := by
  refine fl_Tq.cI (c := (0 : Int32)) rfl (by decide +kernel) (fl_bo rfl) ?_
  refine fl_Tq.stp (pc' := 2) (lv' := [some (.inr (.inr (.inl (76, 277)))), some (.inl n), some (.inl (0 : Int32)), none]) (st' := []) (m' := (f, l)) rfl rfl (fl_bo rfl) rfl ?_
  refine fl_Tq.cI (c := (0 : Int32)) rfl (by decide +kernel) (fl_bo rfl) ?_
  refine fl_Tq.stp (pc' := 4) (lv' := [some (.inr (.inr (.inl (76, 277)))), some (.inl n), some (.inl (0 : Int32)), some (.inl (0 : Int32))]) (st' := []) (m' := (f, l)) rfl rfl (fl_bo rfl) rfl ?_
  exact k
theorem r2_secsB {L : Nat} {xs : Nat → Int32} {f : t2_F} {l : t2_L} {Q : Option fl_V → fl_M → Prop} {n more : Int32} {j : Nat} {fc : t2_F} (h : c2_I fc f) (ht : (f 280 7).toInt < 9999) (hr : t2_RS f) (hp : f 277 7 = 0) (hk : (Int32.ofNat j).toInt < n.toInt) (k : fl_Tq (pw_P L xs) 248 4 [some (.inr (.inr (.inl (76, 277)))), some (.inl n), some (.inl (more + (r_sec_v f))), some (.inl ((Int32.ofNat j) + (1 : Int32)))] [] (r_sec_m f, l) Q) : fl_Tq (pw_P L xs) 248 4 [some (.inr (.inr (.inl (76, 277)))), some (.inl n), some (.inl more), some (.inl (Int32.ofNat j))] [] (f, l) Q := by
  refine fl_Tq.stp (pc' := 5) (lv' := [some (.inr (.inr (.inl (76, 277)))), some (.inl n), some (.inl more), some (.inl (Int32.ofNat j))]) (st' := [.inl (Int32.ofNat j)]) (m' := (f, l)) rfl rfl (fl_bo rfl) rfl ?_
  refine fl_Tq.stp (pc' := 6) (lv' := [some (.inr (.inr (.inl (76, 277)))), some (.inl n), some (.inl more), some (.inl (Int32.ofNat j))]) (st' := [.inl n, .inl (Int32.ofNat j)]) (m' := (f, l)) rfl rfl (fl_bo rfl) rfl ?_
  refine fl_Tq.jf rfl (fl_bo rfl) (c2_ge_f hk) rfl ?_
  refine fl_Tq.stp (pc' := 10) (lv' := [some (.inr (.inr (.inl (76, 277)))), some (.inl n), some (.inl more), some (.inl (Int32.ofNat j))]) (st' := [.inl more]) (m' := (f, l)) rfl rfl (fl_bo rfl) rfl ?_
  refine fl_Tq.stp (pc' := 11) (lv' := [some (.inr (.inr (.inl (76, 277)))), some (.inl n), some (.inl more), some (.inl (Int32.ofNat j))]) (st' := [.inr (.inr (.inl (76, 277))), .inl more]) (m' := (f, l)) rfl rfl (fl_bo rfl) rfl ?_
  refine fl_Tq.cal rfl rfl (fl_bo rfl) rfl ?_
  refine c2_rsec_q h ht hr hp ?_
  show fl_Tq _ 248 14 [some (.inr (.inr (.inl (76, 277)))), some (.inl n), some (.inl more), some (.inl (Int32.ofNat j))] [.inl (r_sec_v f), .inl more] (r_sec_m f, l) _
  refine fl_Tq.stp (pc' := 15) (lv' := [some (.inr (.inr (.inl (76, 277)))), some (.inl n), some (.inl more), some (.inl (Int32.ofNat j))]) (st' := [.inl (more + (r_sec_v f))]) (m' := (r_sec_m f, l)) rfl rfl (fl_bo rfl) rfl ?_
  refine fl_Tq.stp (pc' := 16) (lv' := [some (.inr (.inr (.inl (76, 277)))), some (.inl n), some (.inl (more + (r_sec_v f))), some (.inl (Int32.ofNat j))]) (st' := []) (m' := (r_sec_m f, l)) rfl rfl (fl_bo rfl) rfl ?_
  refine fl_Tq.stp (pc' := 19) (lv' := [some (.inr (.inr (.inl (76, 277)))), some (.inl n), some (.inl (more + (r_sec_v f))), some (.inl ((Int32.ofNat j) + (1 : Int32)))]) (st' := []) (m' := (r_sec_m f, l)) rfl rfl (fl_bo rfl) rfl ?_
  refine fl_Tq.stp (pc' := 4) (lv' := [some (.inr (.inr (.inl (76, 277)))), some (.inl n), some (.inl (more + (r_sec_v f))), some (.inl ((Int32.ofNat j) + (1 : Int32)))]) (st' := []) (m' := (r_sec_m f, l)) rfl rfl (fl_bo rfl) rfl ?_
  exact k
theorem r2_secsC {L : Nat} {xs : Nat → Int32} {f : t2_F} {l : t2_L} {Q : Option fl_V → fl_M → Prop} {n more : Int32} {j : Nat} (hk : ¬ ((Int32.ofNat j).toInt < n.toInt)) (k : Q (some (.inl more)) (f, l)) : fl_Tq (pw_P L xs) 248 4 [some (.inr (.inr (.inl (76, 277)))), some (.inl n), some (.inl more), some (.inl (Int32.ofNat j))] [] (f, l) Q := by
  refine fl_Tq.stp (pc' := 5) (lv' := [some (.inr (.inr (.inl (76, 277)))), some (.inl n), some (.inl more), some (.inl (Int32.ofNat j))]) (st' := [.inl (Int32.ofNat j)]) (m' := (f, l)) rfl rfl (fl_bo rfl) rfl ?_
  refine fl_Tq.stp (pc' := 6) (lv' := [some (.inr (.inr (.inl (76, 277)))), some (.inl n), some (.inl more), some (.inl (Int32.ofNat j))]) (st' := [.inl n, .inl (Int32.ofNat j)]) (m' := (f, l)) rfl rfl (fl_bo rfl) rfl ?_
  refine fl_Tq.jt rfl (fl_bo rfl) (c2_ge_t hk) rfl ?_
  refine fl_Tq.stp (pc' := 23) (lv' := [some (.inr (.inr (.inl (76, 277)))), some (.inl n), some (.inl more), some (.inl (Int32.ofNat j))]) (st' := [.inl more]) (m' := (f, l)) rfl rfl (fl_bo rfl) rfl ?_
  exact fl_Tq.ret rfl rfl rfl k

end

/-! 94.31.many.lean.txt -/
section
/-! ===== block 0: many seconds ===== -/
section C0MANY
variable {fc fr f g : t2_F} {C n : Nat} {c x : Int32}
noncomputable def c0_runN (f : t2_F) : Nat → t2_F
  | 0 => f
  | k + 1 => c0_sec_m (c0_runN f k)
noncomputable def c0_runV (f : t2_F) (v : Int32) : Nat → Int32
  | 0 => v
  | k + 1 => c0_runV f v k + c0_sec_v (c0_runN f k)
noncomputable def r_runN (f : t2_F) : Nat → t2_F
  | 0 => f
  | k + 1 => r_sec_m (r_runN f k)
noncomputable def r_runV (f : t2_F) (v : Int32) : Nat → Int32
  | 0 => v
  | k + 1 => r_runV f v k + r_sec_v (r_runN f k)
theorem c0_I.time (h : c0_I fc fr) (ht : (fr 280 7).toInt < 9999) : (r_sec_m fr 280 7).toInt = (fr 280 7).toInt + 1 := by
  obtain ⟨i1, i2, i3, i4, i5, i6, im, -, ⟨i8, -⟩, ik, -⟩ := h.chain ht
  have k1 := (h.s1 ht).2
  have ok8 := i8.2.2.2.2
  have okk := ik.2.2.2.2
  unfold r_sec_m
  rw [r_goRules_w okk.2.2.2.2.1.1 okk.2.2.2.2.1.2.1 (by decide)]
  have e1 : r_goKept_m (r_goFaults_m (r_v6 fr)) 280 7 = r_goFaults_m (r_v6 fr) 280 7 := by
    unfold r_goKept_m
    exact r_goKept_f117_w ok8.2.1.2.2.1 (fun C hC => (ok8.2.2.2.2.2.2.2 C hC).1) ok8.2.2.2.2.2.2.1.2.2 (fun C hC => ⟨(ok8.2.2.2.2.2.2.2 C hC).2.2.2.2.2.2.2.1, (ok8.2.2.2.2.2.2.2 C hC).2.2.2.2.2.2.2.2.1⟩) (Nat.le_refl _) (Or.inl (by decide)) (by decide)
  rw [e1, r_goFaults_w im.2.2.2.2.2.2.2.2.2.2.1.2.1 (by decide), r_v6_w, r_goTaper_w (by decide)]
  unfold r_w6
  rw [r_meas_mid (by decide), r_mid_lo (by decide) (by decide) (by decide)]
  unfold r_t5
  rw [fl_row_self, upd_ne (by decide), r_goBalance_w (by decide), r_cells_lo (by decide), i2.cur.2 7 (by decide) (fun C _ => by omega), r_goBus_w2, if_neg (by decide), if_neg (by decide), k1]
theorem c0_I.run (h : c0_I fc fr) (hj : c0_J fc) (hr : t2_RS fr) (hp : fr 277 7 = 0) (v : Int32) : ∀ k : Nat, (fr 280 7).toInt + k ≤ 9999 → (c0_I (c0_runN fc k) (r_runN fr k) ∧ c0_J (c0_runN fc k) ∧ t2_RS (r_runN fr k) ∧ r_runN fr k 277 7 = 0) ∧ (r_runN fr k 280 7).toInt = (fr 280 7).toInt + k ∧ c0_runV fc v k = r_runV fr v k := by
  intro k
  induction k with
  | zero => intro _; exact ⟨⟨h, hj, hr, hp⟩, by show (fr 280 7).toInt = _; omega, rfl⟩
  | succ k ih =>
    intro hk
    obtain ⟨⟨a, b, d, e⟩, t, s⟩ := ih (by omega)
    have ht : (r_runN fr k 280 7).toInt < 9999 := by omega
    obtain ⟨q1, q2⟩ := a.sec ht
    refine ⟨⟨q1, b.sec a ht, d.same (r_sec_p (by decide) (by decide) (by decide)), ?_⟩, ?_, ?_⟩
    · show r_sec_m (r_runN fr k) 277 7 = 0
      rw [(a.p277 ht (by decide) (by decide)).2.2, e]
    · show (r_sec_m (r_runN fr k) 280 7).toInt = _
      rw [a.time ht]
      omega
    · show c0_runV fc v k + c0_sec_v (c0_runN fc k) = r_runV fr v k + r_sec_v (r_runN fr k)
      rw [s, q2]
/-- passSeconds -/
theorem c0_passSeconds_q {L : Nat} {xs : Nat → Int32} {l : t2_L} {Q : Option fl_V → fl_M → Prop} {x : Int32} (h : c0_I fc fr) (hj : c0_J fc) (hr : t2_RS fr) (hp : fr 277 7 = 0) (hx : 0 ≤ x.toInt) (ht : (fr 280 7).toInt + x.toInt ≤ 9999) (k : Q (some (.inl (c0_runV fc (0 : Int32) x.toInt.toNat))) (c0_runN fc x.toInt.toNat, l)) : fl_Tq (pw_P L xs) 55 0 (fl_args (am_mxl (pw_P L xs) 55) [.inr (.inr (.inl (1, 1))), .inl x]) [] (fc, l) Q := by
  have R := h.run hj hr hp (0 : Int32)
  refine c0_secsA ?_
  refine t2_for (n := x.toInt.toNat) (S := fun k => fl_Tq (pw_P L xs) 55 4 [some (.inr (.inr (.inl (1, 1)))), some (.inl x), some (.inl (c0_runV fc (0 : Int32) k)), some (.inl (Int32.ofNat k))] [] (c0_runN fc k, l) Q) (fun k hk hS => ?_) ?_
  · obtain ⟨⟨a, b, -, -⟩, t, -⟩ := R k (by omega)
    refine c0_secsB a (by omega) b (t2_lk hk (by omega)) ?_
    rw [t2_k1]
    exact hS
  · exact c0_secsC (t2_ln (by omega)) k
/-- secondsNow -/
theorem c0_secondsNow_q {L : Nat} {xs : Nat → Int32} {l : t2_L} {Q : Option fl_V → fl_M → Prop} {x : Int32} (h : c0_I fc fr) (hj : c0_J fc) (hr : t2_RS fr) (hp : fr 277 7 = 0) (hx : 0 ≤ x.toInt) (ht : (fr 280 7).toInt + x.toInt ≤ 9999) (k : Q (some (.inl (r_runV fr (0 : Int32) x.toInt.toNat))) (r_runN fr x.toInt.toNat, l)) : fl_Tq (pw_P L xs) 248 0 (fl_args (am_mxl (pw_P L xs) 248) [.inr (.inr (.inl (76, 277))), .inl x]) [] (fr, l) Q := by
  have R := h.run hj hr hp (0 : Int32)
  refine r_secsA ?_
  refine t2_for (n := x.toInt.toNat) (S := fun k => fl_Tq (pw_P L xs) 248 4 [some (.inr (.inr (.inl (76, 277)))), some (.inl x), some (.inl (r_runV fr (0 : Int32) k)), some (.inl (Int32.ofNat k))] [] (r_runN fr k, l) Q) (fun k hk hS => ?_) ?_
  · obtain ⟨⟨a, -, d, e⟩, t, -⟩ := R k (by omega)
    refine r_secsB (f := r_runN fr k) a (by omega) d e (t2_lk hk (by omega)) ?_
    rw [t2_k1]
    exact hS
  · exact r_secsC (t2_ln (by omega)) k
end C0MANY

/-! ===== block 2: many seconds ===== -/
section C2MANY
variable {fc fr f g : t2_F} {C n : Nat} {c x : Int32}
noncomputable def c2_runN (f : t2_F) : Nat → t2_F
  | 0 => f
  | k + 1 => c2_sec_m (c2_runN f k)
noncomputable def c2_runV (f : t2_F) (v : Int32) : Nat → Int32
  | 0 => v
  | k + 1 => c2_runV f v k + c2_sec_v (c2_runN f k)
theorem c2_I.time (h : c2_I fc fr) (ht : (fr 280 7).toInt < 9999) : (r_sec_m fr 280 7).toInt = (fr 280 7).toInt + 1 := by
  obtain ⟨i1, i2, i3, i4, i5, i6, im, -, ⟨i8, -⟩, ik, -⟩ := h.chain ht
  have k1 := (h.s1 ht).2
  have ok8 := i8.2.2.2.2
  have okk := ik.2.2.2.2
  unfold r_sec_m
  rw [r_goRules_w okk.2.2.2.2.1.1 okk.2.2.2.2.1.2.1 (by decide)]
  have e1 : r_goKept_m (r_goFaults_m (r_v6 fr)) 280 7 = r_goFaults_m (r_v6 fr) 280 7 := by
    unfold r_goKept_m
    exact r_goKept_f117_w ok8.2.1.2.2.1 (fun C hC => (ok8.2.2.2.2.2.2.2 C hC).1) ok8.2.2.2.2.2.2.1.2.2 (fun C hC => ⟨(ok8.2.2.2.2.2.2.2 C hC).2.2.2.2.2.2.2.1, (ok8.2.2.2.2.2.2.2 C hC).2.2.2.2.2.2.2.2.1⟩) (Nat.le_refl _) (Or.inl (by decide)) (by decide)
  rw [e1, r_goFaults_w im.2.2.2.2.2.2.2.2.2.2.1.2.1 (by decide), r_v6_w, r_goTaper_w (by decide)]
  unfold r_w6
  rw [r_meas_mid (by decide), r_mid_lo (by decide) (by decide) (by decide)]
  unfold r_t5
  rw [fl_row_self, upd_ne (by decide), r_goBalance_w (by decide), r_cells_lo (by decide), i2.cur.2 7 (by decide) (fun C _ => by omega), r_goBus_w2, if_neg (by decide), if_neg (by decide), k1]
theorem c2_I.run (h : c2_I fc fr) (hj : c2_J fc) (hr : t2_RS fr) (hp : fr 277 7 = 0) (v : Int32) : ∀ k : Nat, (fr 280 7).toInt + k ≤ 9999 → (c2_I (c2_runN fc k) (r_runN fr k) ∧ c2_J (c2_runN fc k) ∧ t2_RS (r_runN fr k) ∧ r_runN fr k 277 7 = 0) ∧ (r_runN fr k 280 7).toInt = (fr 280 7).toInt + k ∧ c2_runV fc v k = r_runV fr v k := by
  intro k
  induction k with
  | zero => intro _; exact ⟨⟨h, hj, hr, hp⟩, by show (fr 280 7).toInt = _; omega, rfl⟩
  | succ k ih =>
    intro hk
    obtain ⟨⟨a, b, d, e⟩, t, s⟩ := ih (by omega)
    have ht : (r_runN fr k 280 7).toInt < 9999 := by omega
    obtain ⟨q1, q2⟩ := a.sec ht
    refine ⟨⟨q1, b.sec a ht, d.same (r_sec_p (by decide) (by decide) (by decide)), ?_⟩, ?_, ?_⟩
    · show r_sec_m (r_runN fr k) 277 7 = 0
      rw [(a.p277 ht (by decide) (by decide)).2.2, e]
    · show (r_sec_m (r_runN fr k) 280 7).toInt = _
      rw [a.time ht]
      omega
    · show c2_runV fc v k + c2_sec_v (c2_runN fc k) = r_runV fr v k + r_sec_v (r_runN fr k)
      rw [s, q2]
theorem c2_passSeconds_q {L : Nat} {xs : Nat → Int32} {l : t2_L} {Q : Option fl_V → fl_M → Prop} {x : Int32} (h : c2_I fc fr) (hj : c2_J fc) (hr : t2_RS fr) (hp : fr 277 7 = 0) (hx : 0 ≤ x.toInt) (ht : (fr 280 7).toInt + x.toInt ≤ 9999) (k : Q (some (.inl (c2_runV fc (0 : Int32) x.toInt.toNat))) (c2_runN fc x.toInt.toNat, l)) : fl_Tq (pw_P L xs) 55 0 (fl_args (am_mxl (pw_P L xs) 55) [.inr (.inr (.inl (49, 181))), .inl x]) [] (fc, l) Q := by
  have R := h.run hj hr hp (0 : Int32)
  refine c2_secsA ?_
  refine t2_for (n := x.toInt.toNat) (S := fun k => fl_Tq (pw_P L xs) 55 4 [some (.inr (.inr (.inl (49, 181)))), some (.inl x), some (.inl (c2_runV fc (0 : Int32) k)), some (.inl (Int32.ofNat k))] [] (c2_runN fc k, l) Q) (fun k hk hS => ?_) ?_
  · obtain ⟨⟨a, b, -, -⟩, t, -⟩ := R k (by omega)
    refine c2_secsB a (by omega) b (t2_lk hk (by omega)) ?_
    rw [t2_k1]
    exact hS
  · exact c2_secsC (t2_ln (by omega)) k
theorem c2_secondsNow_q {L : Nat} {xs : Nat → Int32} {l : t2_L} {Q : Option fl_V → fl_M → Prop} {x : Int32} (h : c2_I fc fr) (hj : c2_J fc) (hr : t2_RS fr) (hp : fr 277 7 = 0) (hx : 0 ≤ x.toInt) (ht : (fr 280 7).toInt + x.toInt ≤ 9999) (k : Q (some (.inl (r_runV fr (0 : Int32) x.toInt.toNat))) (r_runN fr x.toInt.toNat, l)) : fl_Tq (pw_P L xs) 248 0 (fl_args (am_mxl (pw_P L xs) 248) [.inr (.inr (.inl (76, 277))), .inl x]) [] (fr, l) Q := by
  have R := h.run hj hr hp (0 : Int32)
  refine r_secsA ?_
  refine t2_for (n := x.toInt.toNat) (S := fun k => fl_Tq (pw_P L xs) 248 4 [some (.inr (.inr (.inl (76, 277)))), some (.inl x), some (.inl (r_runV fr (0 : Int32) k)), some (.inl (Int32.ofNat k))] [] (r_runN fr k, l) Q) (fun k hk hS => ?_) ?_
  · obtain ⟨⟨a, -, d, e⟩, t, -⟩ := R k (by omega)
    refine r2_secsB (f := r_runN fr k) a (by omega) d e (t2_lk hk (by omega)) ?_
    rw [t2_k1]
    exact hS
  · exact r_secsC (t2_ln (by omega)) k
end C2MANY

end

/-! 94.32.g18.lean.txt -/
section
theorem c0_drA {L : Nat} {xs : Nat → Int32} {f : t2_F} {l : t2_L} {Q : Option fl_V → fl_M → Prop}   (k : fl_Tq (pw_P L xs) 56 4 [some (.inr (.inr (.inl (1, 1)))), some (.inl (0 : Int32)), some (.inl (0 : Int32)), none, none] [] (f, l) Q) : fl_Tq (pw_P L xs) 56 0 [some (.inr (.inr (.inl (1, 1)))), none, none, none, none] [] (f, l) Q := by
  refine fl_Tq.cI (c := (0 : Int32)) rfl (by decide +kernel) (fl_bo rfl) ?_
  refine fl_Tq.stp (pc' := 2) (lv' := [some (.inr (.inr (.inl (1, 1)))), some (.inl (0 : Int32)), none, none, none]) (st' := []) (m' := (f, l)) rfl rfl (fl_bo rfl) rfl ?_
  refine fl_Tq.cI (c := (0 : Int32)) rfl (by decide +kernel) (fl_bo rfl) ?_
  refine fl_Tq.stp (pc' := 4) (lv' := [some (.inr (.inr (.inl (1, 1)))), some (.inl (0 : Int32)), some (.inl (0 : Int32)), none, none]) (st' := []) (m' := (f, l)) rfl rfl (fl_bo rfl) rfl ?_
  exact k
theorem c0_drB {L : Nat} {xs : Nat → Int32} {f : t2_F} {l : t2_L} {Q : Option fl_V → fl_M → Prop} {mo : Int32} {j : Nat} (hj : j < 24) (hk : (Int32.ofNat j).toInt < (f 3 7).toInt) (k : fl_Tq (pw_P L xs) 56 64 [some (.inr (.inr (.inl (1, 1)))), some (.inl mo), some (.inl (Int32.ofNat j)), some (.inl (t2_min_v (f 8 ((j * 2) + 1)) ((9999 : Int32) - (f 1 6)))), some (.inl (0 : Int32))] [] (fl_row f 4 (upd (f 4) 20 (f 8 (j * 2))), l) Q) : fl_Tq (pw_P L xs) 56 4 [some (.inr (.inr (.inl (1, 1)))), some (.inl mo), some (.inl (Int32.ofNat j)), none, none] [] (f, l) Q := by
  refine fl_Tq.stp (pc' := 5) (lv' := [some (.inr (.inr (.inl (1, 1)))), some (.inl mo), some (.inl (Int32.ofNat j)), none, none]) (st' := [.inl (Int32.ofNat j)]) (m' := (f, l)) rfl rfl (fl_bo rfl) rfl ?_
  refine fl_Tq.stp (pc' := 6) (lv' := [some (.inr (.inr (.inl (1, 1)))), some (.inl mo), some (.inl (Int32.ofNat j)), none, none]) (st' := [.inr (.inr (.inl (1, 1))), .inl (Int32.ofNat j)]) (m' := (f, l)) rfl rfl (fl_bo rfl) rfl ?_
  refine fl_Tq.stp (pc' := 9) (lv' := [some (.inr (.inr (.inl (1, 1)))), some (.inl mo), some (.inl (Int32.ofNat j)), none, none]) (st' := [.inr (.inr (.inl (3, 3))), .inl (Int32.ofNat j)]) (m' := (f, l)) rfl rfl (fl_bo rfl) rfl ?_
  refine fl_Tq.gfV (k := 7) (v := f 3 7) rfl (fl_bo rfl) rfl rfl ?_
  refine fl_Tq.jf rfl (fl_bo rfl) (c2_ge_f hk) rfl ?_
  refine fl_Tq.stp (pc' := 16) (lv' := [some (.inr (.inr (.inl (1, 1)))), some (.inl mo), some (.inl (Int32.ofNat j)), none, none]) (st' := [.inr (.inr (.inl (1, 1)))]) (m' := (f, l)) rfl rfl (fl_bo rfl) rfl ?_
  refine fl_Tq.stp (pc' := 19) (lv' := [some (.inr (.inr (.inl (1, 1)))), some (.inl mo), some (.inl (Int32.ofNat j)), none, none]) (st' := [.inr (.inr (.inl (3, 3)))]) (m' := (f, l)) rfl rfl (fl_bo rfl) rfl ?_
  refine fl_Tq.stp (pc' := 22) (lv' := [some (.inr (.inr (.inl (1, 1)))), some (.inl mo), some (.inl (Int32.ofNat j)), none, none]) (st' := [.inr (.inr (.inl (4, 4)))]) (m' := (f, l)) rfl rfl (fl_bo rfl) rfl ?_
  refine fl_Tq.cB (c := (20 : Int32)) rfl (by decide +kernel) (fl_bo rfl) ?_
  refine fl_Tq.stp (pc' := 25) (lv' := [some (.inr (.inr (.inl (1, 1)))), some (.inl mo), some (.inl (Int32.ofNat j)), none, none]) (st' := [.inr (.inr (.inl (1, 1))), .inl (20 : Int32), .inr (.inr (.inl (4, 4)))]) (m' := (f, l)) rfl rfl (fl_bo rfl) rfl ?_
  refine fl_Tq.stp (pc' := 28) (lv' := [some (.inr (.inr (.inl (1, 1)))), some (.inl mo), some (.inl (Int32.ofNat j)), none, none]) (st' := [.inr (.inr (.inl (3, 3))), .inl (20 : Int32), .inr (.inr (.inl (4, 4)))]) (m' := (f, l)) rfl rfl (fl_bo rfl) rfl ?_
  refine fl_Tq.stp (pc' := 31) (lv' := [some (.inr (.inr (.inl (1, 1)))), some (.inl mo), some (.inl (Int32.ofNat j)), none, none]) (st' := [.inr (.inr (.inl (8, 8))), .inl (20 : Int32), .inr (.inr (.inl (4, 4)))]) (m' := (f, l)) rfl rfl (fl_bo rfl) rfl ?_
  refine fl_Tq.stp (pc' := 32) (lv' := [some (.inr (.inr (.inl (1, 1)))), some (.inl mo), some (.inl (Int32.ofNat j)), none, none]) (st' := [.inl (Int32.ofNat j), .inr (.inr (.inl (8, 8))), .inl (20 : Int32), .inr (.inr (.inl (4, 4)))]) (m' := (f, l)) rfl rfl (fl_bo rfl) rfl ?_
  refine fl_Tq.cI (c := (2 : Int32)) rfl (by decide +kernel) (fl_bo rfl) ?_
  refine fl_Tq.stp (pc' := 34) (lv' := [some (.inr (.inr (.inl (1, 1)))), some (.inl mo), some (.inl (Int32.ofNat j)), none, none]) (st' := [.inl ((Int32.ofNat j) * (2 : Int32)), .inr (.inr (.inl (8, 8))), .inl (20 : Int32), .inr (.inr (.inl (4, 4)))]) (m' := (f, l)) rfl rfl (fl_bo rfl) rfl ?_
  refine fl_Tq.ldV (p := 8) (τ := 8) (n := 48) (z := (0, 0, 0)) (k := j * 2) (v := f 8 (j * 2)) rfl (fl_bo rfl) rfl (t2_im (at_ofN (by omega)) (by decide +kernel) (by omega)) (by omega) rfl ?_
  refine fl_Tq.svV (p := 4) (τ := 4) (n := 30) (z := (0, 0, 0)) (k := 20) (m' := (fl_row f 4 (upd (f 4) 20 (f 8 (j * 2))), l)) rfl (fl_bo rfl) rfl (by decide +kernel) (by decide) (t2_upn rfl) ?_
  refine fl_Tq.stp (pc' := 37) (lv' := [some (.inr (.inr (.inl (1, 1)))), some (.inl mo), some (.inl (Int32.ofNat j)), none, none]) (st' := [.inr (.inr (.inl (1, 1)))]) (m' := (fl_row f 4 (upd (f 4) 20 (f 8 (j * 2))), l)) rfl rfl (fl_bo rfl) rfl ?_
  refine fl_Tq.stp (pc' := 40) (lv' := [some (.inr (.inr (.inl (1, 1)))), some (.inl mo), some (.inl (Int32.ofNat j)), none, none]) (st' := [.inr (.inr (.inl (3, 3)))]) (m' := (fl_row f 4 (upd (f 4) 20 (f 8 (j * 2))), l)) rfl rfl (fl_bo rfl) rfl ?_
  refine fl_Tq.stp (pc' := 43) (lv' := [some (.inr (.inr (.inl (1, 1)))), some (.inl mo), some (.inl (Int32.ofNat j)), none, none]) (st' := [.inr (.inr (.inl (8, 8)))]) (m' := (fl_row f 4 (upd (f 4) 20 (f 8 (j * 2))), l)) rfl rfl (fl_bo rfl) rfl ?_
  refine fl_Tq.stp (pc' := 44) (lv' := [some (.inr (.inr (.inl (1, 1)))), some (.inl mo), some (.inl (Int32.ofNat j)), none, none]) (st' := [.inl (Int32.ofNat j), .inr (.inr (.inl (8, 8)))]) (m' := (fl_row f 4 (upd (f 4) 20 (f 8 (j * 2))), l)) rfl rfl (fl_bo rfl) rfl ?_
  refine fl_Tq.cI (c := (2 : Int32)) rfl (by decide +kernel) (fl_bo rfl) ?_
  refine fl_Tq.stp (pc' := 46) (lv' := [some (.inr (.inr (.inl (1, 1)))), some (.inl mo), some (.inl (Int32.ofNat j)), none, none]) (st' := [.inl ((Int32.ofNat j) * (2 : Int32)), .inr (.inr (.inl (8, 8)))]) (m' := (fl_row f 4 (upd (f 4) 20 (f 8 (j * 2))), l)) rfl rfl (fl_bo rfl) rfl ?_
  refine fl_Tq.cI (c := (1 : Int32)) rfl (by decide +kernel) (fl_bo rfl) ?_
  refine fl_Tq.stp (pc' := 48) (lv' := [some (.inr (.inr (.inl (1, 1)))), some (.inl mo), some (.inl (Int32.ofNat j)), none, none]) (st' := [.inl (((Int32.ofNat j) * (2 : Int32)) + (1 : Int32)), .inr (.inr (.inl (8, 8)))]) (m' := (fl_row f 4 (upd (f 4) 20 (f 8 (j * 2))), l)) rfl rfl (fl_bo rfl) rfl ?_
  refine fl_Tq.ldV (p := 8) (τ := 8) (n := 48) (z := (0, 0, 0)) (k := (j * 2) + 1) (v := f 8 ((j * 2) + 1)) rfl (fl_bo rfl) rfl (t2_ia (t2_im (at_ofN (by omega)) (by decide +kernel) (by omega)) (by decide +kernel) (by omega)) (by omega) (by simp only [fl_row_ne (by decide : 8 ≠ 4)]) ?_
  refine fl_Tq.cS (c := (9999 : Int32)) rfl (by decide +kernel) (fl_bo rfl) ?_
  refine fl_Tq.stp (pc' := 53) (lv' := [some (.inr (.inr (.inl (1, 1)))), some (.inl mo), some (.inl (Int32.ofNat j)), none, none]) (st' := [.inr (.inr (.inl (1, 1))), .inl (9999 : Int32), .inl (f 8 ((j * 2) + 1))]) (m' := (fl_row f 4 (upd (f 4) 20 (f 8 (j * 2))), l)) rfl rfl (fl_bo rfl) rfl ?_
  refine fl_Tq.gfV (k := 6) (v := f 1 6) rfl (fl_bo rfl) rfl (by simp only [fl_row_ne (by decide : 1 ≠ 4)]) ?_
  refine fl_Tq.stp (pc' := 57) (lv' := [some (.inr (.inr (.inl (1, 1)))), some (.inl mo), some (.inl (Int32.ofNat j)), none, none]) (st' := [.inl ((9999 : Int32) - (f 1 6)), .inl (f 8 ((j * 2) + 1))]) (m' := (fl_row f 4 (upd (f 4) 20 (f 8 (j * 2))), l)) rfl rfl (fl_bo rfl) rfl ?_
  refine fl_Tq.cal rfl rfl (fl_bo rfl) rfl ?_
  refine t2_min_q  ?_
  show fl_Tq _ 56 60 [some (.inr (.inr (.inl (1, 1)))), some (.inl mo), some (.inl (Int32.ofNat j)), none, none] [.inl (t2_min_v (f 8 ((j * 2) + 1)) ((9999 : Int32) - (f 1 6)))] (fl_row f 4 (upd (f 4) 20 (f 8 (j * 2))), l) _
  refine fl_Tq.stp (pc' := 61) (lv' := [some (.inr (.inr (.inl (1, 1)))), some (.inl mo), some (.inl (Int32.ofNat j)), some (.inl (t2_min_v (f 8 ((j * 2) + 1)) ((9999 : Int32) - (f 1 6)))), none]) (st' := []) (m' := (fl_row f 4 (upd (f 4) 20 (f 8 (j * 2))), l)) rfl rfl (fl_bo rfl) rfl ?_
  refine fl_Tq.cI (c := (0 : Int32)) rfl (by decide +kernel) (fl_bo rfl) ?_
  refine fl_Tq.stp (pc' := 64) (lv' := [some (.inr (.inr (.inl (1, 1)))), some (.inl mo), some (.inl (Int32.ofNat j)), some (.inl (t2_min_v (f 8 ((j * 2) + 1)) ((9999 : Int32) - (f 1 6)))), some (.inl (0 : Int32))]) (st' := []) (m' := (fl_row f 4 (upd (f 4) 20 (f 8 (j * 2))), l)) rfl rfl (fl_bo rfl) rfl ?_
  exact k
theorem c0_drE {L : Nat} {xs : Nat → Int32} {f : t2_F} {l : t2_L} {Q : Option fl_V → fl_M → Prop} {mo : Int32} {j : Nat} (hk : ¬ ((Int32.ofNat j).toInt < (f 3 7).toInt)) (k : Q (some (.inl mo)) (f, l)) : fl_Tq (pw_P L xs) 56 4 [some (.inr (.inr (.inl (1, 1)))), some (.inl mo), some (.inl (Int32.ofNat j)), none, none] [] (f, l) Q := by
  refine fl_Tq.stp (pc' := 5) (lv' := [some (.inr (.inr (.inl (1, 1)))), some (.inl mo), some (.inl (Int32.ofNat j)), none, none]) (st' := [.inl (Int32.ofNat j)]) (m' := (f, l)) rfl rfl (fl_bo rfl) rfl ?_
  refine fl_Tq.stp (pc' := 6) (lv' := [some (.inr (.inr (.inl (1, 1)))), some (.inl mo), some (.inl (Int32.ofNat j)), none, none]) (st' := [.inr (.inr (.inl (1, 1))), .inl (Int32.ofNat j)]) (m' := (f, l)) rfl rfl (fl_bo rfl) rfl ?_
  refine fl_Tq.stp (pc' := 9) (lv' := [some (.inr (.inr (.inl (1, 1)))), some (.inl mo), some (.inl (Int32.ofNat j)), none, none]) (st' := [.inr (.inr (.inl (3, 3))), .inl (Int32.ofNat j)]) (m' := (f, l)) rfl rfl (fl_bo rfl) rfl ?_
  refine fl_Tq.gfV (k := 7) (v := f 3 7) rfl (fl_bo rfl) rfl rfl ?_
  refine fl_Tq.jt rfl (fl_bo rfl) (c2_ge_t hk) rfl ?_
  refine fl_Tq.stp (pc' := 90) (lv' := [some (.inr (.inr (.inl (1, 1)))), some (.inl mo), some (.inl (Int32.ofNat j)), none, none]) (st' := [.inl mo]) (m' := (f, l)) rfl rfl (fl_bo rfl) rfl ?_
  exact fl_Tq.ret rfl rfl rfl k
theorem c0_drC {L : Nat} {xs : Nat → Int32} {f : t2_F} {l : t2_L} {Q : Option fl_V → fl_M → Prop} {mo n : Int32} {j i : Nat} {fr : t2_F} (h : c0_I f fr) (ht : (fr 280 7).toInt < 9999) (hj : c0_J f) (hk : (Int32.ofNat i).toInt < n.toInt) (k : fl_Tq (pw_P L xs) 56 64 [some (.inr (.inr (.inl (1, 1)))), some (.inl (mo + (c0_sec_v f))), some (.inl (Int32.ofNat j)), some (.inl n), some (.inl ((Int32.ofNat i) + (1 : Int32)))] [] (c0_sec_m f, l) Q) : fl_Tq (pw_P L xs) 56 64 [some (.inr (.inr (.inl (1, 1)))), some (.inl mo), some (.inl (Int32.ofNat j)), some (.inl n), some (.inl (Int32.ofNat i))] [] (f, l) Q := by
  refine fl_Tq.stp (pc' := 66) (lv' := [some (.inr (.inr (.inl (1, 1)))), some (.inl mo), some (.inl (Int32.ofNat j)), some (.inl n), some (.inl (Int32.ofNat i))]) (st' := [.inl (Int32.ofNat i)]) (m' := (f, l)) rfl rfl (fl_bo rfl) rfl ?_
  refine fl_Tq.stp (pc' := 67) (lv' := [some (.inr (.inr (.inl (1, 1)))), some (.inl mo), some (.inl (Int32.ofNat j)), some (.inl n), some (.inl (Int32.ofNat i))]) (st' := [.inl n, .inl (Int32.ofNat i)]) (m' := (f, l)) rfl rfl (fl_bo rfl) rfl ?_
  refine fl_Tq.jf rfl (fl_bo rfl) (c2_ge_f hk) rfl ?_
  refine fl_Tq.stp (pc' := 71) (lv' := [some (.inr (.inr (.inl (1, 1)))), some (.inl mo), some (.inl (Int32.ofNat j)), some (.inl n), some (.inl (Int32.ofNat i))]) (st' := [.inl mo]) (m' := (f, l)) rfl rfl (fl_bo rfl) rfl ?_
  refine fl_Tq.stp (pc' := 72) (lv' := [some (.inr (.inr (.inl (1, 1)))), some (.inl mo), some (.inl (Int32.ofNat j)), some (.inl n), some (.inl (Int32.ofNat i))]) (st' := [.inr (.inr (.inl (1, 1))), .inl mo]) (m' := (f, l)) rfl rfl (fl_bo rfl) rfl ?_
  refine fl_Tq.cal rfl rfl (fl_bo rfl) rfl ?_
  refine c0_sec_q h ht hj ?_
  show fl_Tq _ 56 75 [some (.inr (.inr (.inl (1, 1)))), some (.inl mo), some (.inl (Int32.ofNat j)), some (.inl n), some (.inl (Int32.ofNat i))] [.inl (c0_sec_v f), .inl mo] (c0_sec_m f, l) _
  refine fl_Tq.stp (pc' := 76) (lv' := [some (.inr (.inr (.inl (1, 1)))), some (.inl mo), some (.inl (Int32.ofNat j)), some (.inl n), some (.inl (Int32.ofNat i))]) (st' := [.inl (mo + (c0_sec_v f))]) (m' := (c0_sec_m f, l)) rfl rfl (fl_bo rfl) rfl ?_
  refine fl_Tq.stp (pc' := 77) (lv' := [some (.inr (.inr (.inl (1, 1)))), some (.inl (mo + (c0_sec_v f))), some (.inl (Int32.ofNat j)), some (.inl n), some (.inl (Int32.ofNat i))]) (st' := []) (m' := (c0_sec_m f, l)) rfl rfl (fl_bo rfl) rfl ?_
  refine fl_Tq.stp (pc' := 80) (lv' := [some (.inr (.inr (.inl (1, 1)))), some (.inl (mo + (c0_sec_v f))), some (.inl (Int32.ofNat j)), some (.inl n), some (.inl ((Int32.ofNat i) + (1 : Int32)))]) (st' := []) (m' := (c0_sec_m f, l)) rfl rfl (fl_bo rfl) rfl ?_
  refine fl_Tq.stp (pc' := 64) (lv' := [some (.inr (.inr (.inl (1, 1)))), some (.inl (mo + (c0_sec_v f))), some (.inl (Int32.ofNat j)), some (.inl n), some (.inl ((Int32.ofNat i) + (1 : Int32)))]) (st' := []) (m' := (c0_sec_m f, l)) rfl rfl (fl_bo rfl) rfl ?_
  exact k
theorem c0_drD {L : Nat} {xs : Nat → Int32} {f : t2_F} {l : t2_L} {Q : Option fl_V → fl_M → Prop} {mo n : Int32} {j i : Nat} (hk : ¬ ((Int32.ofNat i).toInt < n.toInt)) (k : fl_Tq (pw_P L xs) 56 4 [some (.inr (.inr (.inl (1, 1)))), some (.inl mo), some (.inl ((Int32.ofNat j) + (1 : Int32))), some (.inl n), some (.inl (Int32.ofNat i))] [] (f, l) Q) : fl_Tq (pw_P L xs) 56 64 [some (.inr (.inr (.inl (1, 1)))), some (.inl mo), some (.inl (Int32.ofNat j)), some (.inl n), some (.inl (Int32.ofNat i))] [] (f, l) Q := by
  refine fl_Tq.stp (pc' := 66) (lv' := [some (.inr (.inr (.inl (1, 1)))), some (.inl mo), some (.inl (Int32.ofNat j)), some (.inl n), some (.inl (Int32.ofNat i))]) (st' := [.inl (Int32.ofNat i)]) (m' := (f, l)) rfl rfl (fl_bo rfl) rfl ?_
  refine fl_Tq.stp (pc' := 67) (lv' := [some (.inr (.inr (.inl (1, 1)))), some (.inl mo), some (.inl (Int32.ofNat j)), some (.inl n), some (.inl (Int32.ofNat i))]) (st' := [.inl n, .inl (Int32.ofNat i)]) (m' := (f, l)) rfl rfl (fl_bo rfl) rfl ?_
  refine fl_Tq.jt rfl (fl_bo rfl) (c2_ge_t hk) rfl ?_
  refine fl_Tq.stp (pc' := 86) (lv' := [some (.inr (.inr (.inl (1, 1)))), some (.inl mo), some (.inl ((Int32.ofNat j) + (1 : Int32))), some (.inl n), some (.inl (Int32.ofNat i))]) (st' := []) (m' := (f, l)) rfl rfl (fl_bo rfl) rfl ?_
  refine fl_Tq.stp (pc' := 4) (lv' := [some (.inr (.inr (.inl (1, 1)))), some (.inl mo), some (.inl ((Int32.ofNat j) + (1 : Int32))), some (.inl n), some (.inl (Int32.ofNat i))]) (st' := []) (m' := (f, l)) rfl rfl (fl_bo rfl) rfl ?_
  exact k
theorem c2_drA {L : Nat} {xs : Nat → Int32} {f : t2_F} {l : t2_L} {Q : Option fl_V → fl_M → Prop}   (k : fl_Tq (pw_P L xs) 56 4 [some (.inr (.inr (.inl (49, 181)))), some (.inl (0 : Int32)), some (.inl (0 : Int32)), none, none] [] (f, l) Q) : fl_Tq (pw_P L xs) 56 0 [some (.inr (.inr (.inl (49, 181)))), none, none, none, none] [] (f, l) Q := by
  refine fl_Tq.cI (c := (0 : Int32)) rfl (by decide +kernel) (fl_bo rfl) ?_
  refine fl_Tq.stp (pc' := 2) (lv' := [some (.inr (.inr (.inl (49, 181)))), some (.inl (0 : Int32)), none, none, none]) (st' := []) (m' := (f, l)) rfl rfl (fl_bo rfl) rfl ?_
  refine fl_Tq.cI (c := (0 : Int32)) rfl (by decide +kernel) (fl_bo rfl) ?_
  refine fl_Tq.stp (pc' := 4) (lv' := [some (.inr (.inr (.inl (49, 181)))), some (.inl (0 : Int32)), some (.inl (0 : Int32)), none, none]) (st' := []) (m' := (f, l)) rfl rfl (fl_bo rfl) rfl ?_
  exact k
theorem c2_drB {L : Nat} {xs : Nat → Int32} {f : t2_F} {l : t2_L} {Q : Option fl_V → fl_M → Prop} {mo : Int32} {j : Nat} (hj : j < 24) (hk : (Int32.ofNat j).toInt < (f 183 7).toInt) (k : fl_Tq (pw_P L xs) 56 64 [some (.inr (.inr (.inl (49, 181)))), some (.inl mo), some (.inl (Int32.ofNat j)), some (.inl (t2_min_v (f 188 ((j * 2) + 1)) ((9999 : Int32) - (f 181 6)))), some (.inl (0 : Int32))] [] (fl_row f 184 (upd (f 184) 20 (f 188 (j * 2))), l) Q) : fl_Tq (pw_P L xs) 56 4 [some (.inr (.inr (.inl (49, 181)))), some (.inl mo), some (.inl (Int32.ofNat j)), none, none] [] (f, l) Q := by
  refine fl_Tq.stp (pc' := 5) (lv' := [some (.inr (.inr (.inl (49, 181)))), some (.inl mo), some (.inl (Int32.ofNat j)), none, none]) (st' := [.inl (Int32.ofNat j)]) (m' := (f, l)) rfl rfl (fl_bo rfl) rfl ?_
  refine fl_Tq.stp (pc' := 6) (lv' := [some (.inr (.inr (.inl (49, 181)))), some (.inl mo), some (.inl (Int32.ofNat j)), none, none]) (st' := [.inr (.inr (.inl (49, 181))), .inl (Int32.ofNat j)]) (m' := (f, l)) rfl rfl (fl_bo rfl) rfl ?_
  refine fl_Tq.stp (pc' := 9) (lv' := [some (.inr (.inr (.inl (49, 181)))), some (.inl mo), some (.inl (Int32.ofNat j)), none, none]) (st' := [.inr (.inr (.inl (51, 183))), .inl (Int32.ofNat j)]) (m' := (f, l)) rfl rfl (fl_bo rfl) rfl ?_
  refine fl_Tq.gfV (k := 7) (v := f 183 7) rfl (fl_bo rfl) rfl rfl ?_
  refine fl_Tq.jf rfl (fl_bo rfl) (c2_ge_f hk) rfl ?_
  refine fl_Tq.stp (pc' := 16) (lv' := [some (.inr (.inr (.inl (49, 181)))), some (.inl mo), some (.inl (Int32.ofNat j)), none, none]) (st' := [.inr (.inr (.inl (49, 181)))]) (m' := (f, l)) rfl rfl (fl_bo rfl) rfl ?_
  refine fl_Tq.stp (pc' := 19) (lv' := [some (.inr (.inr (.inl (49, 181)))), some (.inl mo), some (.inl (Int32.ofNat j)), none, none]) (st' := [.inr (.inr (.inl (51, 183)))]) (m' := (f, l)) rfl rfl (fl_bo rfl) rfl ?_
  refine fl_Tq.stp (pc' := 22) (lv' := [some (.inr (.inr (.inl (49, 181)))), some (.inl mo), some (.inl (Int32.ofNat j)), none, none]) (st' := [.inr (.inr (.inl (52, 184)))]) (m' := (f, l)) rfl rfl (fl_bo rfl) rfl ?_
  refine fl_Tq.cB (c := (20 : Int32)) rfl (by decide +kernel) (fl_bo rfl) ?_
  refine fl_Tq.stp (pc' := 25) (lv' := [some (.inr (.inr (.inl (49, 181)))), some (.inl mo), some (.inl (Int32.ofNat j)), none, none]) (st' := [.inr (.inr (.inl (49, 181))), .inl (20 : Int32), .inr (.inr (.inl (52, 184)))]) (m' := (f, l)) rfl rfl (fl_bo rfl) rfl ?_
  refine fl_Tq.stp (pc' := 28) (lv' := [some (.inr (.inr (.inl (49, 181)))), some (.inl mo), some (.inl (Int32.ofNat j)), none, none]) (st' := [.inr (.inr (.inl (51, 183))), .inl (20 : Int32), .inr (.inr (.inl (52, 184)))]) (m' := (f, l)) rfl rfl (fl_bo rfl) rfl ?_
  refine fl_Tq.stp (pc' := 31) (lv' := [some (.inr (.inr (.inl (49, 181)))), some (.inl mo), some (.inl (Int32.ofNat j)), none, none]) (st' := [.inr (.inr (.inl (56, 188))), .inl (20 : Int32), .inr (.inr (.inl (52, 184)))]) (m' := (f, l)) rfl rfl (fl_bo rfl) rfl ?_
  refine fl_Tq.stp (pc' := 32) (lv' := [some (.inr (.inr (.inl (49, 181)))), some (.inl mo), some (.inl (Int32.ofNat j)), none, none]) (st' := [.inl (Int32.ofNat j), .inr (.inr (.inl (56, 188))), .inl (20 : Int32), .inr (.inr (.inl (52, 184)))]) (m' := (f, l)) rfl rfl (fl_bo rfl) rfl ?_
  refine fl_Tq.cI (c := (2 : Int32)) rfl (by decide +kernel) (fl_bo rfl) ?_
  refine fl_Tq.stp (pc' := 34) (lv' := [some (.inr (.inr (.inl (49, 181)))), some (.inl mo), some (.inl (Int32.ofNat j)), none, none]) (st' := [.inl ((Int32.ofNat j) * (2 : Int32)), .inr (.inr (.inl (56, 188))), .inl (20 : Int32), .inr (.inr (.inl (52, 184)))]) (m' := (f, l)) rfl rfl (fl_bo rfl) rfl ?_
  refine fl_Tq.ldV (p := 188) (τ := 56) (n := 48) (z := (0, 0, 0)) (k := j * 2) (v := f 188 (j * 2)) rfl (fl_bo rfl) rfl (t2_im (at_ofN (by omega)) (by decide +kernel) (by omega)) (by omega) rfl ?_
  refine fl_Tq.svV (p := 184) (τ := 52) (n := 30) (z := (0, 0, 0)) (k := 20) (m' := (fl_row f 184 (upd (f 184) 20 (f 188 (j * 2))), l)) rfl (fl_bo rfl) rfl (by decide +kernel) (by decide) (t2_upn rfl) ?_
  refine fl_Tq.stp (pc' := 37) (lv' := [some (.inr (.inr (.inl (49, 181)))), some (.inl mo), some (.inl (Int32.ofNat j)), none, none]) (st' := [.inr (.inr (.inl (49, 181)))]) (m' := (fl_row f 184 (upd (f 184) 20 (f 188 (j * 2))), l)) rfl rfl (fl_bo rfl) rfl ?_
  refine fl_Tq.stp (pc' := 40) (lv' := [some (.inr (.inr (.inl (49, 181)))), some (.inl mo), some (.inl (Int32.ofNat j)), none, none]) (st' := [.inr (.inr (.inl (51, 183)))]) (m' := (fl_row f 184 (upd (f 184) 20 (f 188 (j * 2))), l)) rfl rfl (fl_bo rfl) rfl ?_
  refine fl_Tq.stp (pc' := 43) (lv' := [some (.inr (.inr (.inl (49, 181)))), some (.inl mo), some (.inl (Int32.ofNat j)), none, none]) (st' := [.inr (.inr (.inl (56, 188)))]) (m' := (fl_row f 184 (upd (f 184) 20 (f 188 (j * 2))), l)) rfl rfl (fl_bo rfl) rfl ?_
  refine fl_Tq.stp (pc' := 44) (lv' := [some (.inr (.inr (.inl (49, 181)))), some (.inl mo), some (.inl (Int32.ofNat j)), none, none]) (st' := [.inl (Int32.ofNat j), .inr (.inr (.inl (56, 188)))]) (m' := (fl_row f 184 (upd (f 184) 20 (f 188 (j * 2))), l)) rfl rfl (fl_bo rfl) rfl ?_
  refine fl_Tq.cI (c := (2 : Int32)) rfl (by decide +kernel) (fl_bo rfl) ?_
  refine fl_Tq.stp (pc' := 46) (lv' := [some (.inr (.inr (.inl (49, 181)))), some (.inl mo), some (.inl (Int32.ofNat j)), none, none]) (st' := [.inl ((Int32.ofNat j) * (2 : Int32)), .inr (.inr (.inl (56, 188)))]) (m' := (fl_row f 184 (upd (f 184) 20 (f 188 (j * 2))), l)) rfl rfl (fl_bo rfl) rfl ?_
  refine fl_Tq.cI (c := (1 : Int32)) rfl (by decide +kernel) (fl_bo rfl) ?_
  refine fl_Tq.stp (pc' := 48) (lv' := [some (.inr (.inr (.inl (49, 181)))), some (.inl mo), some (.inl (Int32.ofNat j)), none, none]) (st' := [.inl (((Int32.ofNat j) * (2 : Int32)) + (1 : Int32)), .inr (.inr (.inl (56, 188)))]) (m' := (fl_row f 184 (upd (f 184) 20 (f 188 (j * 2))), l)) rfl rfl (fl_bo rfl) rfl ?_
  refine fl_Tq.ldV (p := 188) (τ := 56) (n := 48) (z := (0, 0, 0)) (k := (j * 2) + 1) (v := f 188 ((j * 2) + 1)) rfl (fl_bo rfl) rfl (t2_ia (t2_im (at_ofN (by omega)) (by decide +kernel) (by omega)) (by decide +kernel) (by omega)) (by omega) (by simp only [fl_row_ne (by decide : 188 ≠ 184)]) ?_
  refine fl_Tq.cS (c := (9999 : Int32)) rfl (by decide +kernel) (fl_bo rfl) ?_
  refine fl_Tq.stp (pc' := 53) (lv' := [some (.inr (.inr (.inl (49, 181)))), some (.inl mo), some (.inl (Int32.ofNat j)), none, none]) (st' := [.inr (.inr (.inl (49, 181))), .inl (9999 : Int32), .inl (f 188 ((j * 2) + 1))]) (m' := (fl_row f 184 (upd (f 184) 20 (f 188 (j * 2))), l)) rfl rfl (fl_bo rfl) rfl ?_
  refine fl_Tq.gfV (k := 6) (v := f 181 6) rfl (fl_bo rfl) rfl (by simp only [fl_row_ne (by decide : 181 ≠ 184)]) ?_
  refine fl_Tq.stp (pc' := 57) (lv' := [some (.inr (.inr (.inl (49, 181)))), some (.inl mo), some (.inl (Int32.ofNat j)), none, none]) (st' := [.inl ((9999 : Int32) - (f 181 6)), .inl (f 188 ((j * 2) + 1))]) (m' := (fl_row f 184 (upd (f 184) 20 (f 188 (j * 2))), l)) rfl rfl (fl_bo rfl) rfl ?_
  refine fl_Tq.cal rfl rfl (fl_bo rfl) rfl ?_
  refine t2_min_q  ?_
  show fl_Tq _ 56 60 [some (.inr (.inr (.inl (49, 181)))), some (.inl mo), some (.inl (Int32.ofNat j)), none, none] [.inl (t2_min_v (f 188 ((j * 2) + 1)) ((9999 : Int32) - (f 181 6)))] (fl_row f 184 (upd (f 184) 20 (f 188 (j * 2))), l) _
  refine fl_Tq.stp (pc' := 61) (lv' := [some (.inr (.inr (.inl (49, 181)))), some (.inl mo), some (.inl (Int32.ofNat j)), some (.inl (t2_min_v (f 188 ((j * 2) + 1)) ((9999 : Int32) - (f 181 6)))), none]) (st' := []) (m' := (fl_row f 184 (upd (f 184) 20 (f 188 (j * 2))), l)) rfl rfl (fl_bo rfl) rfl ?_
  refine fl_Tq.cI (c := (0 : Int32)) rfl (by decide +kernel) (fl_bo rfl) ?_
  refine fl_Tq.stp (pc' := 64) (lv' := [some (.inr (.inr (.inl (49, 181)))), some (.inl mo), some (.inl (Int32.ofNat j)), some (.inl (t2_min_v (f 188 ((j * 2) + 1)) ((9999 : Int32) - (f 181 6)))), some (.inl (0 : Int32))]) (st' := []) (m' := (fl_row f 184 (upd (f 184) 20 (f 188 (j * 2))), l)) rfl rfl (fl_bo rfl) rfl ?_
  exact k
theorem c2_drE {L : Nat} {xs : Nat → Int32} {f : t2_F} {l : t2_L} {Q : Option fl_V → fl_M → Prop} {mo : Int32} {j : Nat} (hk : ¬ ((Int32.ofNat j).toInt < (f 183 7).toInt)) (k : Q (some (.inl mo)) (f, l)) : fl_Tq (pw_P L xs) 56 4 [some (.inr (.inr (.inl (49, 181)))), some (.inl mo), some (.inl (Int32.ofNat j)), none, none] [] (f, l) Q := by
  refine fl_Tq.stp (pc' := 5) (lv' := [some (.inr (.inr (.inl (49, 181)))), some (.inl mo), some (.inl (Int32.ofNat j)), none, none]) (st' := [.inl (Int32.ofNat j)]) (m' := (f, l)) rfl rfl (fl_bo rfl) rfl ?_
  refine fl_Tq.stp (pc' := 6) (lv' := [some (.inr (.inr (.inl (49, 181)))), some (.inl mo), some (.inl (Int32.ofNat j)), none, none]) (st' := [.inr (.inr (.inl (49, 181))), .inl (Int32.ofNat j)]) (m' := (f, l)) rfl rfl (fl_bo rfl) rfl ?_
  refine fl_Tq.stp (pc' := 9) (lv' := [some (.inr (.inr (.inl (49, 181)))), some (.inl mo), some (.inl (Int32.ofNat j)), none, none]) (st' := [.inr (.inr (.inl (51, 183))), .inl (Int32.ofNat j)]) (m' := (f, l)) rfl rfl (fl_bo rfl) rfl ?_
  refine fl_Tq.gfV (k := 7) (v := f 183 7) rfl (fl_bo rfl) rfl rfl ?_
  refine fl_Tq.jt rfl (fl_bo rfl) (c2_ge_t hk) rfl ?_
  refine fl_Tq.stp (pc' := 90) (lv' := [some (.inr (.inr (.inl (49, 181)))), some (.inl mo), some (.inl (Int32.ofNat j)), none, none]) (st' := [.inl mo]) (m' := (f, l)) rfl rfl (fl_bo rfl) rfl ?_
  exact fl_Tq.ret rfl rfl rfl k
theorem c2_drC {L : Nat} {xs : Nat → Int32} {f : t2_F} {l : t2_L} {Q : Option fl_V → fl_M → Prop} {mo n : Int32} {j i : Nat} {fr : t2_F} (h : c2_I f fr) (ht : (fr 280 7).toInt < 9999) (hj : c2_J f) (hk : (Int32.ofNat i).toInt < n.toInt) (k : fl_Tq (pw_P L xs) 56 64 [some (.inr (.inr (.inl (49, 181)))), some (.inl (mo + (c2_sec_v f))), some (.inl (Int32.ofNat j)), some (.inl n), some (.inl ((Int32.ofNat i) + (1 : Int32)))] [] (c2_sec_m f, l) Q) : fl_Tq (pw_P L xs) 56 64 [some (.inr (.inr (.inl (49, 181)))), some (.inl mo), some (.inl (Int32.ofNat j)), some (.inl n), some (.inl (Int32.ofNat i))] [] (f, l) Q := by
  refine fl_Tq.stp (pc' := 66) (lv' := [some (.inr (.inr (.inl (49, 181)))), some (.inl mo), some (.inl (Int32.ofNat j)), some (.inl n), some (.inl (Int32.ofNat i))]) (st' := [.inl (Int32.ofNat i)]) (m' := (f, l)) rfl rfl (fl_bo rfl) rfl ?_
  refine fl_Tq.stp (pc' := 67) (lv' := [some (.inr (.inr (.inl (49, 181)))), some (.inl mo), some (.inl (Int32.ofNat j)), some (.inl n), some (.inl (Int32.ofNat i))]) (st' := [.inl n, .inl (Int32.ofNat i)]) (m' := (f, l)) rfl rfl (fl_bo rfl) rfl ?_
  refine fl_Tq.jf rfl (fl_bo rfl) (c2_ge_f hk) rfl ?_
  refine fl_Tq.stp (pc' := 71) (lv' := [some (.inr (.inr (.inl (49, 181)))), some (.inl mo), some (.inl (Int32.ofNat j)), some (.inl n), some (.inl (Int32.ofNat i))]) (st' := [.inl mo]) (m' := (f, l)) rfl rfl (fl_bo rfl) rfl ?_
  refine fl_Tq.stp (pc' := 72) (lv' := [some (.inr (.inr (.inl (49, 181)))), some (.inl mo), some (.inl (Int32.ofNat j)), some (.inl n), some (.inl (Int32.ofNat i))]) (st' := [.inr (.inr (.inl (49, 181))), .inl mo]) (m' := (f, l)) rfl rfl (fl_bo rfl) rfl ?_
  refine fl_Tq.cal rfl rfl (fl_bo rfl) rfl ?_
  refine c2_sec_q h ht hj ?_
  show fl_Tq _ 56 75 [some (.inr (.inr (.inl (49, 181)))), some (.inl mo), some (.inl (Int32.ofNat j)), some (.inl n), some (.inl (Int32.ofNat i))] [.inl (c2_sec_v f), .inl mo] (c2_sec_m f, l) _
  refine fl_Tq.stp (pc' := 76) (lv' := [some (.inr (.inr (.inl (49, 181)))), some (.inl mo), some (.inl (Int32.ofNat j)), some (.inl n), some (.inl (Int32.ofNat i))]) (st' := [.inl (mo + (c2_sec_v f))]) (m' := (c2_sec_m f, l)) rfl rfl (fl_bo rfl) rfl ?_
  refine fl_Tq.stp (pc' := 77) (lv' := [some (.inr (.inr (.inl (49, 181)))), some (.inl (mo + (c2_sec_v f))), some (.inl (Int32.ofNat j)), some (.inl n), some (.inl (Int32.ofNat i))]) (st' := []) (m' := (c2_sec_m f, l)) rfl rfl (fl_bo rfl) rfl ?_
  refine fl_Tq.stp (pc' := 80) (lv' := [some (.inr (.inr (.inl (49, 181)))), some (.inl (mo + (c2_sec_v f))), some (.inl (Int32.ofNat j)), some (.inl n), some (.inl ((Int32.ofNat i) + (1 : Int32)))]) (st' := []) (m' := (c2_sec_m f, l)) rfl rfl (fl_bo rfl) rfl ?_
  refine fl_Tq.stp (pc' := 64) (lv' := [some (.inr (.inr (.inl (49, 181)))), some (.inl (mo + (c2_sec_v f))), some (.inl (Int32.ofNat j)), some (.inl n), some (.inl ((Int32.ofNat i) + (1 : Int32)))]) (st' := []) (m' := (c2_sec_m f, l)) rfl rfl (fl_bo rfl) rfl ?_
  exact k
theorem c2_drD {L : Nat} {xs : Nat → Int32} {f : t2_F} {l : t2_L} {Q : Option fl_V → fl_M → Prop} {mo n : Int32} {j i : Nat} (hk : ¬ ((Int32.ofNat i).toInt < n.toInt)) (k : fl_Tq (pw_P L xs) 56 4 [some (.inr (.inr (.inl (49, 181)))), some (.inl mo), some (.inl ((Int32.ofNat j) + (1 : Int32))), some (.inl n), some (.inl (Int32.ofNat i))] [] (f, l) Q) : fl_Tq (pw_P L xs) 56 64 [some (.inr (.inr (.inl (49, 181)))), some (.inl mo), some (.inl (Int32.ofNat j)), some (.inl n), some (.inl (Int32.ofNat i))] [] (f, l) Q := by
  refine fl_Tq.stp (pc' := 66) (lv' := [some (.inr (.inr (.inl (49, 181)))), some (.inl mo), some (.inl (Int32.ofNat j)), some (.inl n), some (.inl (Int32.ofNat i))]) (st' := [.inl (Int32.ofNat i)]) (m' := (f, l)) rfl rfl (fl_bo rfl) rfl ?_
  refine fl_Tq.stp (pc' := 67) (lv' := [some (.inr (.inr (.inl (49, 181)))), some (.inl mo), some (.inl (Int32.ofNat j)), some (.inl n), some (.inl (Int32.ofNat i))]) (st' := [.inl n, .inl (Int32.ofNat i)]) (m' := (f, l)) rfl rfl (fl_bo rfl) rfl ?_
  refine fl_Tq.jt rfl (fl_bo rfl) (c2_ge_t hk) rfl ?_
  refine fl_Tq.stp (pc' := 86) (lv' := [some (.inr (.inr (.inl (49, 181)))), some (.inl mo), some (.inl ((Int32.ofNat j) + (1 : Int32))), some (.inl n), some (.inl (Int32.ofNat i))]) (st' := []) (m' := (f, l)) rfl rfl (fl_bo rfl) rfl ?_
  refine fl_Tq.stp (pc' := 4) (lv' := [some (.inr (.inr (.inl (49, 181)))), some (.inl mo), some (.inl ((Int32.ofNat j) + (1 : Int32))), some (.inl n), some (.inl (Int32.ofNat i))]) (st' := []) (m' := (f, l)) rfl rfl (fl_bo rfl) rfl ?_
  exact k
theorem r_drA {L : Nat} {xs : Nat → Int32} {f : t2_F} {l : t2_L} {Q : Option fl_V → fl_M → Prop}   (k : fl_Tq (pw_P L xs) 266 4 [some (.inr (.inr (.inl (76, 277)))), some (.inl (0 : Int32)), some (.inl (0 : Int32)), none] [] (f, l) Q) : fl_Tq (pw_P L xs) 266 0 [some (.inr (.inr (.inl (76, 277)))), none, none, none] [] (f, l) Q := by
  refine fl_Tq.cI (c := (0 : Int32)) rfl (by decide +kernel) (fl_bo rfl) ?_
  refine fl_Tq.stp (pc' := 2) (lv' := [some (.inr (.inr (.inl (76, 277)))), some (.inl (0 : Int32)), none, none]) (st' := []) (m' := (f, l)) rfl rfl (fl_bo rfl) rfl ?_
  refine fl_Tq.cI (c := (0 : Int32)) rfl (by decide +kernel) (fl_bo rfl) ?_
  refine fl_Tq.stp (pc' := 4) (lv' := [some (.inr (.inr (.inl (76, 277)))), some (.inl (0 : Int32)), some (.inl (0 : Int32)), none]) (st' := []) (m' := (f, l)) rfl rfl (fl_bo rfl) rfl ?_
  exact k
theorem r_drB {L : Nat} {xs : Nat → Int32} {f : t2_F} {l : t2_L} {Q : Option fl_V → fl_M → Prop} {mo : Int32} {j : Nat} (hj : j < 24) (hk : (Int32.ofNat j).toInt < (f 280 19).toInt) (k : fl_Tq (pw_P L xs) 266 35 [some (.inr (.inr (.inl (76, 277)))), some (.inl mo), some (.inl (Int32.ofNat j)), some (.inl (0 : Int32))] [] (fl_row f 280 (upd (f 280) 54 (f 280 (119 + (2 * j)))), l) Q) : fl_Tq (pw_P L xs) 266 4 [some (.inr (.inr (.inl (76, 277)))), some (.inl mo), some (.inl (Int32.ofNat j)), none] [] (f, l) Q := by
  refine fl_Tq.stp (pc' := 5) (lv' := [some (.inr (.inr (.inl (76, 277)))), some (.inl mo), some (.inl (Int32.ofNat j)), none]) (st' := [.inl (Int32.ofNat j)]) (m' := (f, l)) rfl rfl (fl_bo rfl) rfl ?_
  refine fl_Tq.stp (pc' := 6) (lv' := [some (.inr (.inr (.inl (76, 277)))), some (.inl mo), some (.inl (Int32.ofNat j)), none]) (st' := [.inr (.inr (.inl (76, 277))), .inl (Int32.ofNat j)]) (m' := (f, l)) rfl rfl (fl_bo rfl) rfl ?_
  refine fl_Tq.stp (pc' := 9) (lv' := [some (.inr (.inr (.inl (76, 277)))), some (.inl mo), some (.inl (Int32.ofNat j)), none]) (st' := [.inr (.inr (.inl (79, 280))), .inl (Int32.ofNat j)]) (m' := (f, l)) rfl rfl (fl_bo rfl) rfl ?_
  refine fl_Tq.cB (c := (19 : Int32)) rfl (by decide +kernel) (fl_bo rfl) ?_
  refine fl_Tq.ldV (p := 280) (τ := 79) (n := 29780) (z := (0, 0, 0)) (k := 19) (v := f 280 19) rfl (fl_bo rfl) rfl (by decide +kernel) (by decide) rfl ?_
  refine fl_Tq.jf rfl (fl_bo rfl) (c2_ge_f hk) rfl ?_
  refine fl_Tq.stp (pc' := 16) (lv' := [some (.inr (.inr (.inl (76, 277)))), some (.inl mo), some (.inl (Int32.ofNat j)), none]) (st' := [.inr (.inr (.inl (76, 277)))]) (m' := (f, l)) rfl rfl (fl_bo rfl) rfl ?_
  refine fl_Tq.stp (pc' := 19) (lv' := [some (.inr (.inr (.inl (76, 277)))), some (.inl mo), some (.inl (Int32.ofNat j)), none]) (st' := [.inr (.inr (.inl (79, 280)))]) (m' := (f, l)) rfl rfl (fl_bo rfl) rfl ?_
  refine fl_Tq.cB (c := (54 : Int32)) rfl (by decide +kernel) (fl_bo rfl) ?_
  refine fl_Tq.stp (pc' := 22) (lv' := [some (.inr (.inr (.inl (76, 277)))), some (.inl mo), some (.inl (Int32.ofNat j)), none]) (st' := [.inr (.inr (.inl (76, 277))), .inl (54 : Int32), .inr (.inr (.inl (79, 280)))]) (m' := (f, l)) rfl rfl (fl_bo rfl) rfl ?_
  refine fl_Tq.stp (pc' := 25) (lv' := [some (.inr (.inr (.inl (76, 277)))), some (.inl mo), some (.inl (Int32.ofNat j)), none]) (st' := [.inr (.inr (.inl (79, 280))), .inl (54 : Int32), .inr (.inr (.inl (79, 280)))]) (m' := (f, l)) rfl rfl (fl_bo rfl) rfl ?_
  refine fl_Tq.cB (c := (119 : Int32)) rfl (by decide +kernel) (fl_bo rfl) ?_
  refine fl_Tq.cI (c := (2 : Int32)) rfl (by decide +kernel) (fl_bo rfl) ?_
  refine fl_Tq.stp (pc' := 29) (lv' := [some (.inr (.inr (.inl (76, 277)))), some (.inl mo), some (.inl (Int32.ofNat j)), none]) (st' := [.inl (Int32.ofNat j), .inl (2 : Int32), .inl (119 : Int32), .inr (.inr (.inl (79, 280))), .inl (54 : Int32), .inr (.inr (.inl (79, 280)))]) (m' := (f, l)) rfl rfl (fl_bo rfl) rfl ?_
  refine fl_Tq.stp (pc' := 30) (lv' := [some (.inr (.inr (.inl (76, 277)))), some (.inl mo), some (.inl (Int32.ofNat j)), none]) (st' := [.inl ((2 : Int32) * (Int32.ofNat j)), .inl (119 : Int32), .inr (.inr (.inl (79, 280))), .inl (54 : Int32), .inr (.inr (.inl (79, 280)))]) (m' := (f, l)) rfl rfl (fl_bo rfl) rfl ?_
  refine fl_Tq.stp (pc' := 31) (lv' := [some (.inr (.inr (.inl (76, 277)))), some (.inl mo), some (.inl (Int32.ofNat j)), none]) (st' := [.inl ((119 : Int32) + ((2 : Int32) * (Int32.ofNat j))), .inr (.inr (.inl (79, 280))), .inl (54 : Int32), .inr (.inr (.inl (79, 280)))]) (m' := (f, l)) rfl rfl (fl_bo rfl) rfl ?_
  refine fl_Tq.ldV (p := 280) (τ := 79) (n := 29780) (z := (0, 0, 0)) (k := 119 + (2 * j)) (v := f 280 (119 + (2 * j))) rfl (fl_bo rfl) rfl (t2_ia (by decide +kernel) (t2_im (by decide +kernel) (at_ofN (by omega)) (by omega)) (by omega)) (by omega) rfl ?_
  refine fl_Tq.svV (p := 280) (τ := 79) (n := 29780) (z := (0, 0, 0)) (k := 54) (m' := (fl_row f 280 (upd (f 280) 54 (f 280 (119 + (2 * j)))), l)) rfl (fl_bo rfl) rfl (by decide +kernel) (by decide) (t2_upn rfl) ?_
  refine fl_Tq.cI (c := (0 : Int32)) rfl (by decide +kernel) (fl_bo rfl) ?_
  refine fl_Tq.stp (pc' := 35) (lv' := [some (.inr (.inr (.inl (76, 277)))), some (.inl mo), some (.inl (Int32.ofNat j)), some (.inl (0 : Int32))]) (st' := []) (m' := (fl_row f 280 (upd (f 280) 54 (f 280 (119 + (2 * j)))), l)) rfl rfl (fl_bo rfl) rfl ?_
  exact k
theorem r_drE {L : Nat} {xs : Nat → Int32} {f : t2_F} {l : t2_L} {Q : Option fl_V → fl_M → Prop} {mo : Int32} {j : Nat} (hk : ¬ ((Int32.ofNat j).toInt < (f 280 19).toInt)) (k : Q (some (.inl mo)) (f, l)) : fl_Tq (pw_P L xs) 266 4 [some (.inr (.inr (.inl (76, 277)))), some (.inl mo), some (.inl (Int32.ofNat j)), none] [] (f, l) Q := by
  refine fl_Tq.stp (pc' := 5) (lv' := [some (.inr (.inr (.inl (76, 277)))), some (.inl mo), some (.inl (Int32.ofNat j)), none]) (st' := [.inl (Int32.ofNat j)]) (m' := (f, l)) rfl rfl (fl_bo rfl) rfl ?_
  refine fl_Tq.stp (pc' := 6) (lv' := [some (.inr (.inr (.inl (76, 277)))), some (.inl mo), some (.inl (Int32.ofNat j)), none]) (st' := [.inr (.inr (.inl (76, 277))), .inl (Int32.ofNat j)]) (m' := (f, l)) rfl rfl (fl_bo rfl) rfl ?_
  refine fl_Tq.stp (pc' := 9) (lv' := [some (.inr (.inr (.inl (76, 277)))), some (.inl mo), some (.inl (Int32.ofNat j)), none]) (st' := [.inr (.inr (.inl (79, 280))), .inl (Int32.ofNat j)]) (m' := (f, l)) rfl rfl (fl_bo rfl) rfl ?_
  refine fl_Tq.cB (c := (19 : Int32)) rfl (by decide +kernel) (fl_bo rfl) ?_
  refine fl_Tq.ldV (p := 280) (τ := 79) (n := 29780) (z := (0, 0, 0)) (k := 19) (v := f 280 19) rfl (fl_bo rfl) rfl (by decide +kernel) (by decide) rfl ?_
  refine fl_Tq.jt rfl (fl_bo rfl) (c2_ge_t hk) rfl ?_
  refine fl_Tq.stp (pc' := 85) (lv' := [some (.inr (.inr (.inl (76, 277)))), some (.inl mo), some (.inl (Int32.ofNat j)), none]) (st' := [.inl mo]) (m' := (f, l)) rfl rfl (fl_bo rfl) rfl ?_
  exact fl_Tq.ret rfl rfl rfl k
theorem r_drC {L : Nat} {xs : Nat → Int32} {f : t2_F} {l : t2_L} {Q : Option fl_V → fl_M → Prop} {mo : Int32} {j i : Nat} {fc : t2_F} (hj : j < 24) (h : c0_I fc f) (ht : (f 280 7).toInt < 9999) (hr : t2_RS f) (hp : f 277 7 = 0) (hk : (Int32.ofNat i).toInt < (f 280 ((119 + (2 * j)) + 1)).toInt) (hl : (f 280 7).toInt < (9999 : Int32).toInt) (k : fl_Tq (pw_P L xs) 266 35 [some (.inr (.inr (.inl (76, 277)))), some (.inl (mo + (r_sec_v f))), some (.inl (Int32.ofNat j)), some (.inl ((Int32.ofNat i) + (1 : Int32)))] [] (r_sec_m f, l) Q) : fl_Tq (pw_P L xs) 266 35 [some (.inr (.inr (.inl (76, 277)))), some (.inl mo), some (.inl (Int32.ofNat j)), some (.inl (Int32.ofNat i))] [] (f, l) Q := by
  refine fl_Tq.stp (pc' := 36) (lv' := [some (.inr (.inr (.inl (76, 277)))), some (.inl mo), some (.inl (Int32.ofNat j)), some (.inl (Int32.ofNat i))]) (st' := [.inl (Int32.ofNat i)]) (m' := (f, l)) rfl rfl (fl_bo rfl) rfl ?_
  refine fl_Tq.stp (pc' := 37) (lv' := [some (.inr (.inr (.inl (76, 277)))), some (.inl mo), some (.inl (Int32.ofNat j)), some (.inl (Int32.ofNat i))]) (st' := [.inr (.inr (.inl (76, 277))), .inl (Int32.ofNat i)]) (m' := (f, l)) rfl rfl (fl_bo rfl) rfl ?_
  refine fl_Tq.stp (pc' := 40) (lv' := [some (.inr (.inr (.inl (76, 277)))), some (.inl mo), some (.inl (Int32.ofNat j)), some (.inl (Int32.ofNat i))]) (st' := [.inr (.inr (.inl (79, 280))), .inl (Int32.ofNat i)]) (m' := (f, l)) rfl rfl (fl_bo rfl) rfl ?_
  refine fl_Tq.cB (c := (119 : Int32)) rfl (by decide +kernel) (fl_bo rfl) ?_
  refine fl_Tq.cI (c := (2 : Int32)) rfl (by decide +kernel) (fl_bo rfl) ?_
  refine fl_Tq.stp (pc' := 44) (lv' := [some (.inr (.inr (.inl (76, 277)))), some (.inl mo), some (.inl (Int32.ofNat j)), some (.inl (Int32.ofNat i))]) (st' := [.inl (Int32.ofNat j), .inl (2 : Int32), .inl (119 : Int32), .inr (.inr (.inl (79, 280))), .inl (Int32.ofNat i)]) (m' := (f, l)) rfl rfl (fl_bo rfl) rfl ?_
  refine fl_Tq.stp (pc' := 45) (lv' := [some (.inr (.inr (.inl (76, 277)))), some (.inl mo), some (.inl (Int32.ofNat j)), some (.inl (Int32.ofNat i))]) (st' := [.inl ((2 : Int32) * (Int32.ofNat j)), .inl (119 : Int32), .inr (.inr (.inl (79, 280))), .inl (Int32.ofNat i)]) (m' := (f, l)) rfl rfl (fl_bo rfl) rfl ?_
  refine fl_Tq.stp (pc' := 46) (lv' := [some (.inr (.inr (.inl (76, 277)))), some (.inl mo), some (.inl (Int32.ofNat j)), some (.inl (Int32.ofNat i))]) (st' := [.inl ((119 : Int32) + ((2 : Int32) * (Int32.ofNat j))), .inr (.inr (.inl (79, 280))), .inl (Int32.ofNat i)]) (m' := (f, l)) rfl rfl (fl_bo rfl) rfl ?_
  refine fl_Tq.cI (c := (1 : Int32)) rfl (by decide +kernel) (fl_bo rfl) ?_
  refine fl_Tq.stp (pc' := 48) (lv' := [some (.inr (.inr (.inl (76, 277)))), some (.inl mo), some (.inl (Int32.ofNat j)), some (.inl (Int32.ofNat i))]) (st' := [.inl (((119 : Int32) + ((2 : Int32) * (Int32.ofNat j))) + (1 : Int32)), .inr (.inr (.inl (79, 280))), .inl (Int32.ofNat i)]) (m' := (f, l)) rfl rfl (fl_bo rfl) rfl ?_
  refine fl_Tq.ldV (p := 280) (τ := 79) (n := 29780) (z := (0, 0, 0)) (k := (119 + (2 * j)) + 1) (v := f 280 ((119 + (2 * j)) + 1)) rfl (fl_bo rfl) rfl (t2_ia (t2_ia (by decide +kernel) (t2_im (by decide +kernel) (at_ofN (by omega)) (by omega)) (by omega)) (by decide +kernel) (by omega)) (by omega) rfl ?_
  refine fl_Tq.jf rfl (fl_bo rfl) (c2_ge_f hk) rfl ?_
  refine fl_Tq.stp (pc' := 53) (lv' := [some (.inr (.inr (.inl (76, 277)))), some (.inl mo), some (.inl (Int32.ofNat j)), some (.inl (Int32.ofNat i))]) (st' := [.inr (.inr (.inl (76, 277)))]) (m' := (f, l)) rfl rfl (fl_bo rfl) rfl ?_
  refine fl_Tq.stp (pc' := 56) (lv' := [some (.inr (.inr (.inl (76, 277)))), some (.inl mo), some (.inl (Int32.ofNat j)), some (.inl (Int32.ofNat i))]) (st' := [.inr (.inr (.inl (79, 280)))]) (m' := (f, l)) rfl rfl (fl_bo rfl) rfl ?_
  refine fl_Tq.cB (c := (7 : Int32)) rfl (by decide +kernel) (fl_bo rfl) ?_
  refine fl_Tq.ldV (p := 280) (τ := 79) (n := 29780) (z := (0, 0, 0)) (k := 7) (v := f 280 7) rfl (fl_bo rfl) rfl (by decide +kernel) (by decide) rfl ?_
  refine fl_Tq.cS (c := (9999 : Int32)) rfl (by decide +kernel) (fl_bo rfl) ?_
  refine fl_Tq.jf rfl (fl_bo rfl) (c2_ge_f hl) rfl ?_
  refine fl_Tq.stp (pc' := 66) (lv' := [some (.inr (.inr (.inl (76, 277)))), some (.inl mo), some (.inl (Int32.ofNat j)), some (.inl (Int32.ofNat i))]) (st' := [.inl mo]) (m' := (f, l)) rfl rfl (fl_bo rfl) rfl ?_
  refine fl_Tq.stp (pc' := 67) (lv' := [some (.inr (.inr (.inl (76, 277)))), some (.inl mo), some (.inl (Int32.ofNat j)), some (.inl (Int32.ofNat i))]) (st' := [.inr (.inr (.inl (76, 277))), .inl mo]) (m' := (f, l)) rfl rfl (fl_bo rfl) rfl ?_
  refine fl_Tq.cal rfl rfl (fl_bo rfl) rfl ?_
  refine c0_rsec_q h ht hr hp ?_
  show fl_Tq _ 266 70 [some (.inr (.inr (.inl (76, 277)))), some (.inl mo), some (.inl (Int32.ofNat j)), some (.inl (Int32.ofNat i))] [.inl (r_sec_v f), .inl mo] (r_sec_m f, l) _
  refine fl_Tq.stp (pc' := 71) (lv' := [some (.inr (.inr (.inl (76, 277)))), some (.inl mo), some (.inl (Int32.ofNat j)), some (.inl (Int32.ofNat i))]) (st' := [.inl (mo + (r_sec_v f))]) (m' := (r_sec_m f, l)) rfl rfl (fl_bo rfl) rfl ?_
  refine fl_Tq.stp (pc' := 72) (lv' := [some (.inr (.inr (.inl (76, 277)))), some (.inl (mo + (r_sec_v f))), some (.inl (Int32.ofNat j)), some (.inl (Int32.ofNat i))]) (st' := []) (m' := (r_sec_m f, l)) rfl rfl (fl_bo rfl) rfl ?_
  refine fl_Tq.stp (pc' := 75) (lv' := [some (.inr (.inr (.inl (76, 277)))), some (.inl (mo + (r_sec_v f))), some (.inl (Int32.ofNat j)), some (.inl ((Int32.ofNat i) + (1 : Int32)))]) (st' := []) (m' := (r_sec_m f, l)) rfl rfl (fl_bo rfl) rfl ?_
  refine fl_Tq.stp (pc' := 35) (lv' := [some (.inr (.inr (.inl (76, 277)))), some (.inl (mo + (r_sec_v f))), some (.inl (Int32.ofNat j)), some (.inl ((Int32.ofNat i) + (1 : Int32)))]) (st' := []) (m' := (r_sec_m f, l)) rfl rfl (fl_bo rfl) rfl ?_
  exact k
theorem r2_drC {L : Nat} {xs : Nat → Int32} {f : t2_F} {l : t2_L} {Q : Option fl_V → fl_M → Prop} {mo : Int32} {j i : Nat} {fc : t2_F} (hj : j < 24) (h : c2_I fc f) (ht : (f 280 7).toInt < 9999) (hr : t2_RS f) (hp : f 277 7 = 0) (hk : (Int32.ofNat i).toInt < (f 280 ((119 + (2 * j)) + 1)).toInt) (hl : (f 280 7).toInt < (9999 : Int32).toInt) (k : fl_Tq (pw_P L xs) 266 35 [some (.inr (.inr (.inl (76, 277)))), some (.inl (mo + (r_sec_v f))), some (.inl (Int32.ofNat j)), some (.inl ((Int32.ofNat i) + (1 : Int32)))] [] (r_sec_m f, l) Q) : fl_Tq (pw_P L xs) 266 35 [some (.inr (.inr (.inl (76, 277)))), some (.inl mo), some (.inl (Int32.ofNat j)), some (.inl (Int32.ofNat i))] [] (f, l) Q := by
  refine fl_Tq.stp (pc' := 36) (lv' := [some (.inr (.inr (.inl (76, 277)))), some (.inl mo), some (.inl (Int32.ofNat j)), some (.inl (Int32.ofNat i))]) (st' := [.inl (Int32.ofNat i)]) (m' := (f, l)) rfl rfl (fl_bo rfl) rfl ?_
  refine fl_Tq.stp (pc' := 37) (lv' := [some (.inr (.inr (.inl (76, 277)))), some (.inl mo), some (.inl (Int32.ofNat j)), some (.inl (Int32.ofNat i))]) (st' := [.inr (.inr (.inl (76, 277))), .inl (Int32.ofNat i)]) (m' := (f, l)) rfl rfl (fl_bo rfl) rfl ?_
  refine fl_Tq.stp (pc' := 40) (lv' := [some (.inr (.inr (.inl (76, 277)))), some (.inl mo), some (.inl (Int32.ofNat j)), some (.inl (Int32.ofNat i))]) (st' := [.inr (.inr (.inl (79, 280))), .inl (Int32.ofNat i)]) (m' := (f, l)) rfl rfl (fl_bo rfl) rfl ?_
  refine fl_Tq.cB (c := (119 : Int32)) rfl (by decide +kernel) (fl_bo rfl) ?_
  refine fl_Tq.cI (c := (2 : Int32)) rfl (by decide +kernel) (fl_bo rfl) ?_
  refine fl_Tq.stp (pc' := 44) (lv' := [some (.inr (.inr (.inl (76, 277)))), some (.inl mo), some (.inl (Int32.ofNat j)), some (.inl (Int32.ofNat i))]) (st' := [.inl (Int32.ofNat j), .inl (2 : Int32), .inl (119 : Int32), .inr (.inr (.inl (79, 280))), .inl (Int32.ofNat i)]) (m' := (f, l)) rfl rfl (fl_bo rfl) rfl ?_
  refine fl_Tq.stp (pc' := 45) (lv' := [some (.inr (.inr (.inl (76, 277)))), some (.inl mo), some (.inl (Int32.ofNat j)), some (.inl (Int32.ofNat i))]) (st' := [.inl ((2 : Int32) * (Int32.ofNat j)), .inl (119 : Int32), .inr (.inr (.inl (79, 280))), .inl (Int32.ofNat i)]) (m' := (f, l)) rfl rfl (fl_bo rfl) rfl ?_
  refine fl_Tq.stp (pc' := 46) (lv' := [some (.inr (.inr (.inl (76, 277)))), some (.inl mo), some (.inl (Int32.ofNat j)), some (.inl (Int32.ofNat i))]) (st' := [.inl ((119 : Int32) + ((2 : Int32) * (Int32.ofNat j))), .inr (.inr (.inl (79, 280))), .inl (Int32.ofNat i)]) (m' := (f, l)) rfl rfl (fl_bo rfl) rfl ?_
  refine fl_Tq.cI (c := (1 : Int32)) rfl (by decide +kernel) (fl_bo rfl) ?_
  refine fl_Tq.stp (pc' := 48) (lv' := [some (.inr (.inr (.inl (76, 277)))), some (.inl mo), some (.inl (Int32.ofNat j)), some (.inl (Int32.ofNat i))]) (st' := [.inl (((119 : Int32) + ((2 : Int32) * (Int32.ofNat j))) + (1 : Int32)), .inr (.inr (.inl (79, 280))), .inl (Int32.ofNat i)]) (m' := (f, l)) rfl rfl (fl_bo rfl) rfl ?_
  refine fl_Tq.ldV (p := 280) (τ := 79) (n := 29780) (z := (0, 0, 0)) (k := (119 + (2 * j)) + 1) (v := f 280 ((119 + (2 * j)) + 1)) rfl (fl_bo rfl) rfl (t2_ia (t2_ia (by decide +kernel) (t2_im (by decide +kernel) (at_ofN (by omega)) (by omega)) (by omega)) (by decide +kernel) (by omega)) (by omega) rfl ?_
  refine fl_Tq.jf rfl (fl_bo rfl) (c2_ge_f hk) rfl ?_
  refine fl_Tq.stp (pc' := 53) (lv' := [some (.inr (.inr (.inl (76, 277)))), some (.inl mo), some (.inl (Int32.ofNat j)), some (.inl (Int32.ofNat i))]) (st' := [.inr (.inr (.inl (76, 277)))]) (m' := (f, l)) rfl rfl (fl_bo rfl) rfl ?_
  refine fl_Tq.stp (pc' := 56) (lv' := [some (.inr (.inr (.inl (76, 277)))), some (.inl mo), some (.inl (Int32.ofNat j)), some (.inl (Int32.ofNat i))]) (st' := [.inr (.inr (.inl (79, 280)))]) (m' := (f, l)) rfl rfl (fl_bo rfl) rfl ?_
  refine fl_Tq.cB (c := (7 : Int32)) rfl (by decide +kernel) (fl_bo rfl) ?_
  refine fl_Tq.ldV (p := 280) (τ := 79) (n := 29780) (z := (0, 0, 0)) (k := 7) (v := f 280 7) rfl (fl_bo rfl) rfl (by decide +kernel) (by decide) rfl ?_
  refine fl_Tq.cS (c := (9999 : Int32)) rfl (by decide +kernel) (fl_bo rfl) ?_
  refine fl_Tq.jf rfl (fl_bo rfl) (c2_ge_f hl) rfl ?_
  refine fl_Tq.stp (pc' := 66) (lv' := [some (.inr (.inr (.inl (76, 277)))), some (.inl mo), some (.inl (Int32.ofNat j)), some (.inl (Int32.ofNat i))]) (st' := [.inl mo]) (m' := (f, l)) rfl rfl (fl_bo rfl) rfl ?_
  refine fl_Tq.stp (pc' := 67) (lv' := [some (.inr (.inr (.inl (76, 277)))), some (.inl mo), some (.inl (Int32.ofNat j)), some (.inl (Int32.ofNat i))]) (st' := [.inr (.inr (.inl (76, 277))), .inl mo]) (m' := (f, l)) rfl rfl (fl_bo rfl) rfl ?_
  refine fl_Tq.cal rfl rfl (fl_bo rfl) rfl ?_
  refine c2_rsec_q h ht hr hp ?_
  show fl_Tq _ 266 70 [some (.inr (.inr (.inl (76, 277)))), some (.inl mo), some (.inl (Int32.ofNat j)), some (.inl (Int32.ofNat i))] [.inl (r_sec_v f), .inl mo] (r_sec_m f, l) _
  refine fl_Tq.stp (pc' := 71) (lv' := [some (.inr (.inr (.inl (76, 277)))), some (.inl mo), some (.inl (Int32.ofNat j)), some (.inl (Int32.ofNat i))]) (st' := [.inl (mo + (r_sec_v f))]) (m' := (r_sec_m f, l)) rfl rfl (fl_bo rfl) rfl ?_
  refine fl_Tq.stp (pc' := 72) (lv' := [some (.inr (.inr (.inl (76, 277)))), some (.inl (mo + (r_sec_v f))), some (.inl (Int32.ofNat j)), some (.inl (Int32.ofNat i))]) (st' := []) (m' := (r_sec_m f, l)) rfl rfl (fl_bo rfl) rfl ?_
  refine fl_Tq.stp (pc' := 75) (lv' := [some (.inr (.inr (.inl (76, 277)))), some (.inl (mo + (r_sec_v f))), some (.inl (Int32.ofNat j)), some (.inl ((Int32.ofNat i) + (1 : Int32)))]) (st' := []) (m' := (r_sec_m f, l)) rfl rfl (fl_bo rfl) rfl ?_
  refine fl_Tq.stp (pc' := 35) (lv' := [some (.inr (.inr (.inl (76, 277)))), some (.inl (mo + (r_sec_v f))), some (.inl (Int32.ofNat j)), some (.inl ((Int32.ofNat i) + (1 : Int32)))]) (st' := []) (m' := (r_sec_m f, l)) rfl rfl (fl_bo rfl) rfl ?_
  exact k
theorem r_drD {L : Nat} {xs : Nat → Int32} {f : t2_F} {l : t2_L} {Q : Option fl_V → fl_M → Prop} {mo : Int32} {j i : Nat} (hj : j < 24) (hk : ¬ ((Int32.ofNat i).toInt < (f 280 ((119 + (2 * j)) + 1)).toInt)) (k : fl_Tq (pw_P L xs) 266 4 [some (.inr (.inr (.inl (76, 277)))), some (.inl mo), some (.inl ((Int32.ofNat j) + (1 : Int32))), some (.inl (Int32.ofNat i))] [] (f, l) Q) : fl_Tq (pw_P L xs) 266 35 [some (.inr (.inr (.inl (76, 277)))), some (.inl mo), some (.inl (Int32.ofNat j)), some (.inl (Int32.ofNat i))] [] (f, l) Q := by
  refine fl_Tq.stp (pc' := 36) (lv' := [some (.inr (.inr (.inl (76, 277)))), some (.inl mo), some (.inl (Int32.ofNat j)), some (.inl (Int32.ofNat i))]) (st' := [.inl (Int32.ofNat i)]) (m' := (f, l)) rfl rfl (fl_bo rfl) rfl ?_
  refine fl_Tq.stp (pc' := 37) (lv' := [some (.inr (.inr (.inl (76, 277)))), some (.inl mo), some (.inl (Int32.ofNat j)), some (.inl (Int32.ofNat i))]) (st' := [.inr (.inr (.inl (76, 277))), .inl (Int32.ofNat i)]) (m' := (f, l)) rfl rfl (fl_bo rfl) rfl ?_
  refine fl_Tq.stp (pc' := 40) (lv' := [some (.inr (.inr (.inl (76, 277)))), some (.inl mo), some (.inl (Int32.ofNat j)), some (.inl (Int32.ofNat i))]) (st' := [.inr (.inr (.inl (79, 280))), .inl (Int32.ofNat i)]) (m' := (f, l)) rfl rfl (fl_bo rfl) rfl ?_
  refine fl_Tq.cB (c := (119 : Int32)) rfl (by decide +kernel) (fl_bo rfl) ?_
  refine fl_Tq.cI (c := (2 : Int32)) rfl (by decide +kernel) (fl_bo rfl) ?_
  refine fl_Tq.stp (pc' := 44) (lv' := [some (.inr (.inr (.inl (76, 277)))), some (.inl mo), some (.inl (Int32.ofNat j)), some (.inl (Int32.ofNat i))]) (st' := [.inl (Int32.ofNat j), .inl (2 : Int32), .inl (119 : Int32), .inr (.inr (.inl (79, 280))), .inl (Int32.ofNat i)]) (m' := (f, l)) rfl rfl (fl_bo rfl) rfl ?_
  refine fl_Tq.stp (pc' := 45) (lv' := [some (.inr (.inr (.inl (76, 277)))), some (.inl mo), some (.inl (Int32.ofNat j)), some (.inl (Int32.ofNat i))]) (st' := [.inl ((2 : Int32) * (Int32.ofNat j)), .inl (119 : Int32), .inr (.inr (.inl (79, 280))), .inl (Int32.ofNat i)]) (m' := (f, l)) rfl rfl (fl_bo rfl) rfl ?_
  refine fl_Tq.stp (pc' := 46) (lv' := [some (.inr (.inr (.inl (76, 277)))), some (.inl mo), some (.inl (Int32.ofNat j)), some (.inl (Int32.ofNat i))]) (st' := [.inl ((119 : Int32) + ((2 : Int32) * (Int32.ofNat j))), .inr (.inr (.inl (79, 280))), .inl (Int32.ofNat i)]) (m' := (f, l)) rfl rfl (fl_bo rfl) rfl ?_
  refine fl_Tq.cI (c := (1 : Int32)) rfl (by decide +kernel) (fl_bo rfl) ?_
  refine fl_Tq.stp (pc' := 48) (lv' := [some (.inr (.inr (.inl (76, 277)))), some (.inl mo), some (.inl (Int32.ofNat j)), some (.inl (Int32.ofNat i))]) (st' := [.inl (((119 : Int32) + ((2 : Int32) * (Int32.ofNat j))) + (1 : Int32)), .inr (.inr (.inl (79, 280))), .inl (Int32.ofNat i)]) (m' := (f, l)) rfl rfl (fl_bo rfl) rfl ?_
  refine fl_Tq.ldV (p := 280) (τ := 79) (n := 29780) (z := (0, 0, 0)) (k := (119 + (2 * j)) + 1) (v := f 280 ((119 + (2 * j)) + 1)) rfl (fl_bo rfl) rfl (t2_ia (t2_ia (by decide +kernel) (t2_im (by decide +kernel) (at_ofN (by omega)) (by omega)) (by omega)) (by decide +kernel) (by omega)) (by omega) rfl ?_
  refine fl_Tq.jt rfl (fl_bo rfl) (c2_ge_t hk) rfl ?_
  refine fl_Tq.stp (pc' := 81) (lv' := [some (.inr (.inr (.inl (76, 277)))), some (.inl mo), some (.inl ((Int32.ofNat j) + (1 : Int32))), some (.inl (Int32.ofNat i))]) (st' := []) (m' := (f, l)) rfl rfl (fl_bo rfl) rfl ?_
  refine fl_Tq.stp (pc' := 4) (lv' := [some (.inr (.inr (.inl (76, 277)))), some (.inl mo), some (.inl ((Int32.ofNat j) + (1 : Int32))), some (.inl (Int32.ofNat i))]) (st' := []) (m' := (f, l)) rfl rfl (fl_bo rfl) rfl ?_
  exact k
theorem r_drD2 {L : Nat} {xs : Nat → Int32} {f : t2_F} {l : t2_L} {Q : Option fl_V → fl_M → Prop} {mo : Int32} {j i : Nat} (hj : j < 24) (hk : (Int32.ofNat i).toInt < (f 280 ((119 + (2 * j)) + 1)).toInt) (hl : ¬ ((f 280 7).toInt < (9999 : Int32).toInt)) (k : fl_Tq (pw_P L xs) 266 4 [some (.inr (.inr (.inl (76, 277)))), some (.inl mo), some (.inl ((Int32.ofNat j) + (1 : Int32))), some (.inl (Int32.ofNat i))] [] (f, l) Q) : fl_Tq (pw_P L xs) 266 35 [some (.inr (.inr (.inl (76, 277)))), some (.inl mo), some (.inl (Int32.ofNat j)), some (.inl (Int32.ofNat i))] [] (f, l) Q := by
  refine fl_Tq.stp (pc' := 36) (lv' := [some (.inr (.inr (.inl (76, 277)))), some (.inl mo), some (.inl (Int32.ofNat j)), some (.inl (Int32.ofNat i))]) (st' := [.inl (Int32.ofNat i)]) (m' := (f, l)) rfl rfl (fl_bo rfl) rfl ?_
  refine fl_Tq.stp (pc' := 37) (lv' := [some (.inr (.inr (.inl (76, 277)))), some (.inl mo), some (.inl (Int32.ofNat j)), some (.inl (Int32.ofNat i))]) (st' := [.inr (.inr (.inl (76, 277))), .inl (Int32.ofNat i)]) (m' := (f, l)) rfl rfl (fl_bo rfl) rfl ?_
  refine fl_Tq.stp (pc' := 40) (lv' := [some (.inr (.inr (.inl (76, 277)))), some (.inl mo), some (.inl (Int32.ofNat j)), some (.inl (Int32.ofNat i))]) (st' := [.inr (.inr (.inl (79, 280))), .inl (Int32.ofNat i)]) (m' := (f, l)) rfl rfl (fl_bo rfl) rfl ?_
  refine fl_Tq.cB (c := (119 : Int32)) rfl (by decide +kernel) (fl_bo rfl) ?_
  refine fl_Tq.cI (c := (2 : Int32)) rfl (by decide +kernel) (fl_bo rfl) ?_
  refine fl_Tq.stp (pc' := 44) (lv' := [some (.inr (.inr (.inl (76, 277)))), some (.inl mo), some (.inl (Int32.ofNat j)), some (.inl (Int32.ofNat i))]) (st' := [.inl (Int32.ofNat j), .inl (2 : Int32), .inl (119 : Int32), .inr (.inr (.inl (79, 280))), .inl (Int32.ofNat i)]) (m' := (f, l)) rfl rfl (fl_bo rfl) rfl ?_
  refine fl_Tq.stp (pc' := 45) (lv' := [some (.inr (.inr (.inl (76, 277)))), some (.inl mo), some (.inl (Int32.ofNat j)), some (.inl (Int32.ofNat i))]) (st' := [.inl ((2 : Int32) * (Int32.ofNat j)), .inl (119 : Int32), .inr (.inr (.inl (79, 280))), .inl (Int32.ofNat i)]) (m' := (f, l)) rfl rfl (fl_bo rfl) rfl ?_
  refine fl_Tq.stp (pc' := 46) (lv' := [some (.inr (.inr (.inl (76, 277)))), some (.inl mo), some (.inl (Int32.ofNat j)), some (.inl (Int32.ofNat i))]) (st' := [.inl ((119 : Int32) + ((2 : Int32) * (Int32.ofNat j))), .inr (.inr (.inl (79, 280))), .inl (Int32.ofNat i)]) (m' := (f, l)) rfl rfl (fl_bo rfl) rfl ?_
  refine fl_Tq.cI (c := (1 : Int32)) rfl (by decide +kernel) (fl_bo rfl) ?_
  refine fl_Tq.stp (pc' := 48) (lv' := [some (.inr (.inr (.inl (76, 277)))), some (.inl mo), some (.inl (Int32.ofNat j)), some (.inl (Int32.ofNat i))]) (st' := [.inl (((119 : Int32) + ((2 : Int32) * (Int32.ofNat j))) + (1 : Int32)), .inr (.inr (.inl (79, 280))), .inl (Int32.ofNat i)]) (m' := (f, l)) rfl rfl (fl_bo rfl) rfl ?_
  refine fl_Tq.ldV (p := 280) (τ := 79) (n := 29780) (z := (0, 0, 0)) (k := (119 + (2 * j)) + 1) (v := f 280 ((119 + (2 * j)) + 1)) rfl (fl_bo rfl) rfl (t2_ia (t2_ia (by decide +kernel) (t2_im (by decide +kernel) (at_ofN (by omega)) (by omega)) (by omega)) (by decide +kernel) (by omega)) (by omega) rfl ?_
  refine fl_Tq.jf rfl (fl_bo rfl) (c2_ge_f hk) rfl ?_
  refine fl_Tq.stp (pc' := 53) (lv' := [some (.inr (.inr (.inl (76, 277)))), some (.inl mo), some (.inl (Int32.ofNat j)), some (.inl (Int32.ofNat i))]) (st' := [.inr (.inr (.inl (76, 277)))]) (m' := (f, l)) rfl rfl (fl_bo rfl) rfl ?_
  refine fl_Tq.stp (pc' := 56) (lv' := [some (.inr (.inr (.inl (76, 277)))), some (.inl mo), some (.inl (Int32.ofNat j)), some (.inl (Int32.ofNat i))]) (st' := [.inr (.inr (.inl (79, 280)))]) (m' := (f, l)) rfl rfl (fl_bo rfl) rfl ?_
  refine fl_Tq.cB (c := (7 : Int32)) rfl (by decide +kernel) (fl_bo rfl) ?_
  refine fl_Tq.ldV (p := 280) (τ := 79) (n := 29780) (z := (0, 0, 0)) (k := 7) (v := f 280 7) rfl (fl_bo rfl) rfl (by decide +kernel) (by decide) rfl ?_
  refine fl_Tq.cS (c := (9999 : Int32)) rfl (by decide +kernel) (fl_bo rfl) ?_
  refine fl_Tq.jt rfl (fl_bo rfl) (c2_ge_t hl) rfl ?_
  refine fl_Tq.stp (pc' := 81) (lv' := [some (.inr (.inr (.inl (76, 277)))), some (.inl mo), some (.inl ((Int32.ofNat j) + (1 : Int32))), some (.inl (Int32.ofNat i))]) (st' := []) (m' := (f, l)) rfl rfl (fl_bo rfl) rfl ?_
  refine fl_Tq.stp (pc' := 4) (lv' := [some (.inr (.inr (.inl (76, 277)))), some (.inl mo), some (.inl ((Int32.ofNat j) + (1 : Int32))), some (.inl (Int32.ofNat i))]) (st' := []) (m' := (f, l)) rfl rfl (fl_bo rfl) rfl ?_
  exact k

end

/-! 94.33.drv.lean.txt -/
section
/-! ===== block 0: a setting; a drive ===== -/
section C0DRV
variable {fc fr f g : t2_F} {C n : Nat} {c x v : Int32}
noncomputable def c0_set (f : t2_F) (k : Nat) (v : Int32) : t2_F := fl_row f 4 (upd (f 4) k v)
noncomputable def r_set (f : t2_F) (k : Nat) (v : Int32) : t2_F := fl_row f 280 (upd (f 280) (34 + k) v)
theorem c0_I.set (h : c0_I fc fr) {k : Nat} (hk : k < 30) (hv : t2_lo k ≤ v.toInt ∧ v.toInt ≤ t2_hi k) : c0_I (c0_set fc k v) (r_set fr k v) := by
  obtain ⟨⟨⟨g5, g6, g7, g8⟩, ⟨g9, g10, g11, g12⟩, g13, g14, g15, g16⟩, rs, gx, cl, ok⟩ := h
  have P : ∀ p : Nat, p ≠ 4 → c0_set fc k v p = fc p := fun p hp => fl_row_ne hp
  have W : ∀ w : Nat, (w < 34 ∨ 64 ≤ w) → r_set fr k v 280 w = fr 280 w := fun w hw => by unfold r_set; rw [fl_row_self, upd_ne (by omega)]
  have P1 : c0_set fc k v 1 = fc 1 := P _ (by decide)
  refine ⟨⟨⟨?_, ?_, ?_, ?_⟩, ⟨?_, ?_, ?_, ?_⟩, ?_, ?_, ?_, ?_⟩, fun j hj => ?_, gx.congr ok.2.2.2.2.2.1.1.2 (fun p hp => P p (by omega)) (fun w hw => W w (by omega)), fun C hC => ?_, ?_⟩
  · rw [P1, W 2 (by decide), g5]
  · rw [P1, W 7 (by decide), g6]
  · rw [P1, W 3 (by decide), g7]
  · rw [P1, W 4 (by decide), g8]
  · rw [P1, W 5 (by decide), g9]
  · rw [P1, W 14 (by decide), g10]
  · rw [P1, W 8 (by decide), g11]
  · rw [P1, W 9 (by decide), g12]
  · rw [P1, W 10 (by decide), g13]
  · rw [P1, W 11 (by decide), g14]
  · rw [P1, W 12 (by decide), g15]
  · rw [P1, W 13 (by decide), g16]
  · unfold c0_set r_set
    rw [fl_row_self, fl_row_self]
    by_cases e : j = k
    · subst e
      rw [upd_self, upd_self]
    · rw [upd_ne e, upd_ne (by omega)]
      exact rs j hj
  · rw [W 2 (by decide)] at hC
    exact ⟨(cl C hC).1.congr (P _ (by omega)) (fun k hk => W _ (by omega)), (cl C hC).2.congr (fun j _ _ => by rw [P _ (by omega)]) (fun p hp => P p (by omega)) (fun w hw => W _ (by omega))⟩
  · refine ok.upd (fun w hw => W w (by omega)) (fun j hj => ?_) (by rw [W 5 (by decide)]; exact ok.2.1.1) (by rw [W 4 (by decide)]; exact ok.2.1.2.1) (by rw [W 7 (by decide)]; exact ok.2.1.2.2.2) (by rw [W 16 (by decide), W 20 (by decide), W 21 (by decide)]; exact ok.2.2.2.2.2.2.1) (fun C hC => ?_)
    · unfold r_set
      rw [fl_row_self]
      by_cases e : j = k
      · subst e
        rw [upd_self]
        exact hv
      · rw [upd_ne (by omega)]
        exact ok.s hj
    · exact (ok.2.2.2.2.2.2.2 C hC).congr (fun w hw => W _ (by omega)) (by rw [W 7 (by decide)]; exact Int.le_refl _)
/-- the words that no second touches -/
theorem c0_I.sec_w (h : c0_I fc fr) (ht : (fr 280 7).toInt < 9999) {w : Nat} (hw : (17 ≤ w ∧ w < 20) ∨ (64 ≤ w ∧ w < 167)) : r_sec_m fr 280 w = fr 280 w := by
  obtain ⟨i1, i2, i3, i4, i5, i6, im, -, ⟨i8, -⟩, ik, -⟩ := h.chain ht
  have ok8 := i8.2.2.2.2
  have okk := ik.2.2.2.2
  unfold r_sec_m
  rw [r_goRules_w okk.2.2.2.2.1.1 okk.2.2.2.2.1.2.1 (by omega)]
  have e1 : r_goKept_m (r_goFaults_m (r_v6 fr)) 280 w = r_goFaults_m (r_v6 fr) 280 w := by
    unfold r_goKept_m
    exact r_goKept_f117_w ok8.2.1.2.2.1 (fun C hC => (ok8.2.2.2.2.2.2.2 C hC).1) ok8.2.2.2.2.2.2.1.2.2 (fun C hC => ⟨(ok8.2.2.2.2.2.2.2 C hC).2.2.2.2.2.2.2.1, (ok8.2.2.2.2.2.2.2 C hC).2.2.2.2.2.2.2.2.1⟩) (Nat.le_refl _) (Or.inl (by omega)) (by omega)
  rw [e1, r_goFaults_w im.2.2.2.2.2.2.2.2.2.2.1.2.1 (by omega), r_v6_w, r_goTaper_w (by omega)]
  unfold r_w6
  rw [r_meas_mid (by omega), r_mid_lo (by omega) (by omega) (by omega)]
  unfold r_t5
  rw [fl_row_self, upd_ne (by omega), r_goBalance_w (by omega), r_cells_lo (by omega), i2.cur.2 w (by omega) (fun C _ => by omega), r_goBus_w2, if_neg (by omega), if_neg (by omega)]
  unfold r_t1
  rw [fl_row_self, upd_ne (by omega)]
theorem c0_I.run_w (h : c0_I fc fr) (hj : c0_J fc) (hr : t2_RS fr) (hp : fr 277 7 = 0) {w : Nat} (hw : (17 ≤ w ∧ w < 20) ∨ (64 ≤ w ∧ w < 167)) : ∀ k : Nat, (fr 280 7).toInt + k ≤ 9999 → r_runN fr k 280 w = fr 280 w := by
  intro k
  induction k with
  | zero => intro _; rfl
  | succ k ih =>
    intro hk
    obtain ⟨⟨a, -⟩, t, -⟩ := h.run hj hr hp (0 : Int32) k (by omega)
    show r_sec_m (r_runN fr k) 280 w = _
    rw [a.sec_w (by omega) hw, ih (by omega)]
/-- how many seconds a piece takes -/
noncomputable def r_pn (f : t2_F) (j : Nat) : Nat := (min (f 280 (119 + 2 * j + 1)).toInt (9999 - (f 280 7).toInt)).toNat
noncomputable def c0_pn (f : t2_F) (j : Nat) : Int32 := t2_min_v (f 8 ((j * 2) + 1)) ((9999 : Int32) - (f 1 6))
/-- a drive, j pieces of it -/
noncomputable def c0_drv (f : t2_F) : Nat → t2_F × Int32
  | 0 => (f, (0 : Int32))
  | j + 1 => (c0_runN (c0_set (c0_drv f j).1 20 ((c0_drv f j).1 8 (j * 2))) (c0_pn (c0_drv f j).1 j).toInt.toNat, c0_runV (c0_set (c0_drv f j).1 20 ((c0_drv f j).1 8 (j * 2))) (c0_drv f j).2 (c0_pn (c0_drv f j).1 j).toInt.toNat)
noncomputable def r_drv (f : t2_F) : Nat → t2_F × Int32
  | 0 => (f, (0 : Int32))
  | j + 1 => (r_runN (r_set (r_drv f j).1 20 ((r_drv f j).1 280 (119 + 2 * j))) (r_pn (r_drv f j).1 j), r_runV (r_set (r_drv f j).1 20 ((r_drv f j).1 280 (119 + 2 * j))) (r_drv f j).2 (r_pn (r_drv f j).1 j))
def c0_K (fc fr : t2_F) : Prop := c0_I fc fr ∧ c0_J fc ∧ t2_RS fr ∧ fr 277 7 = 0
theorem c0_K.set (h : c0_K fc fr) {k : Nat} (hk : k < 30) (hv : t2_lo k ≤ v.toInt ∧ v.toInt ≤ t2_hi k) : c0_K (c0_set fc k v) (r_set fr k v) := by
  obtain ⟨a, b, d, e⟩ := h
  refine ⟨a.set hk hv, b.congr (fun p hp => fl_row_ne (by omega)), d.same (fl_row_ne (by decide)), ?_⟩
  unfold r_set
  rw [fl_row_ne (by decide)]
  exact e
theorem c0_K.pn (h : c0_K fc fr) {j : Nat} (hj : (j : Int) < (fr 280 19).toInt) : (c0_pn fc j).toInt.toNat = r_pn fr j ∧ 0 ≤ (c0_pn fc j).toInt ∧ (fr 280 7).toInt + r_pn fr j ≤ 9999 ∧ fc 8 (j * 2) = fr 280 (119 + 2 * j) ∧ (-99999 ≤ (fr 280 (119 + 2 * j)).toInt ∧ (fr 280 (119 + 2 * j)).toInt ≤ 99999) ∧ (1 ≤ (fr 280 (119 + 2 * j + 1)).toInt ∧ (fr 280 (119 + 2 * j + 1)).toInt ≤ 99) := by
  obtain ⟨⟨⟨⟨g5, g6, -⟩, -⟩, -, ⟨⟨-, -, -, -, -, gp⟩, -⟩, -, ok⟩, -⟩ := h
  have b := ok.2.2.2.2.2.1.2 j hj
  have t := ok.2.1.2.2.2
  have e8 : fc 8 ((j * 2) + 1) = fr 280 (119 + 2 * j + 1) := by
    rw [gp (j * 2 + 1) (by omega)]
    congr 1
    omega
  have e80 : fc 8 (j * 2) = fr 280 (119 + 2 * j) := by
    rw [gp (j * 2) (by omega)]
    congr 1
    omega
  have c9 : (9999 : Int32).toInt = 9999 := by decide +kernel
  have s : ((9999 : Int32) - fr 280 7).toInt = 9999 - (fr 280 7).toInt := by rw [at_sub32 (by omega) (by omega), c9]
  have m : (c0_pn fc j).toInt = min (fr 280 (119 + 2 * j + 1)).toInt (9999 - (fr 280 7).toInt) := by
    unfold c0_pn
    rw [t2_min_i, e8, g6, s]
  unfold r_pn
  rw [m]
  refine ⟨rfl, by omega, by omega, e80, b.1, b.2⟩
theorem c0_K.run (h : c0_K fc fr) (v : Int32) {k : Nat} (hk : (fr 280 7).toInt + k ≤ 9999) : c0_K (c0_runN fc k) (r_runN fr k) ∧ (r_runN fr k 280 7).toInt = (fr 280 7).toInt + k ∧ c0_runV fc v k = r_runV fr v k := h.1.run h.2.1 h.2.2.1 h.2.2.2 v k hk
theorem c0_K.drv (h : c0_K fc fr) : ∀ j : Nat, (j : Int) ≤ (fr 280 19).toInt → c0_K (c0_drv fc j).1 (r_drv fr j).1 ∧ (r_drv fr j).1 280 19 = fr 280 19 ∧ (c0_drv fc j).2 = (r_drv fr j).2 := by
  have q20 : t2_lo 20 = -99999 ∧ t2_hi 20 = 99999 := by decide
  intro j
  induction j with
  | zero => intro _; exact ⟨h, rfl, rfl⟩
  | succ j ih =>
    intro hj
    obtain ⟨a, b, d⟩ := ih (by omega)
    obtain ⟨p1, p2, p3, p4, p5, p6⟩ := a.pn (j := j) (by rw [b]; omega)
    have s := a.set (k := 20) (v := (r_drv fr j).1 280 (119 + 2 * j)) (by decide) (by omega)
    have t7 : r_set (r_drv fr j).1 20 ((r_drv fr j).1 280 (119 + 2 * j)) 280 7 = (r_drv fr j).1 280 7 := by unfold r_set; rw [fl_row_self, upd_ne (by decide)]
    obtain ⟨r1, r2, r3⟩ := s.run (r_drv fr j).2 (k := r_pn (r_drv fr j).1 j) (by rw [t7]; omega)
    refine ⟨?_, ?_, ?_⟩
    · show c0_K (c0_runN (c0_set (c0_drv fc j).1 20 ((c0_drv fc j).1 8 (j * 2))) (c0_pn (c0_drv fc j).1 j).toInt.toNat) (r_runN (r_set (r_drv fr j).1 20 ((r_drv fr j).1 280 (119 + 2 * j))) (r_pn (r_drv fr j).1 j))
      rw [p1, p4]
      exact r1
    · show r_runN (r_set (r_drv fr j).1 20 ((r_drv fr j).1 280 (119 + 2 * j))) (r_pn (r_drv fr j).1 j) 280 19 = _
      rw [s.1.run_w s.2.1 s.2.2.1 s.2.2.2 (Or.inl (by decide)) _ (by rw [t7]; omega)]
      unfold r_set
      rw [fl_row_self, upd_ne (by decide), b]
    · show c0_runV (c0_set (c0_drv fc j).1 20 ((c0_drv fc j).1 8 (j * 2))) (c0_drv fc j).2 (c0_pn (c0_drv fc j).1 j).toInt.toNat = r_runV (r_set (r_drv fr j).1 20 ((r_drv fr j).1 280 (119 + 2 * j))) (r_drv fr j).2 (r_pn (r_drv fr j).1 j)
      rw [p1, p4, d]
      exact r3
/-- passDrive -/
theorem c0_passDrive_q {L : Nat} {xs : Nat → Int32} {l : t2_L} {Q : Option fl_V → fl_M → Prop} (h : c0_K fc fr) (k : Q (some (.inl (c0_drv fc (fr 280 19).toInt.toNat).2)) ((c0_drv fc (fr 280 19).toInt.toNat).1, l)) : fl_Tq (pw_P L xs) 56 0 (fl_args (am_mxl (pw_P L xs) 56) [.inr (.inr (.inl (1, 1)))]) [] (fc, l) Q := by
  have n19 := h.1.2.2.2.2.2.2.2.2.2.1.1
  have q20 : t2_lo 20 = -99999 ∧ t2_hi 20 = 99999 := by decide
  have cnt : ∀ j : Nat, (j : Int) ≤ (fr 280 19).toInt → ((c0_drv fc j).1 3 7).toInt = (((fr 280 19).toInt.toNat : Nat) : Int) := fun j hj => by
    obtain ⟨a, b, -⟩ := h.drv j hj
    rw [a.1.2.2.1.1.2.2.2.2.1, b]
    omega
  refine c0_drA ?_
  refine t2_for (n := (fr 280 19).toInt.toNat) (S := fun j => fl_Tq (pw_P L xs) 56 4 [some (.inr (.inr (.inl (1, 1)))), some (.inl (c0_drv fc j).2), some (.inl (Int32.ofNat j)), none, none] [] ((c0_drv fc j).1, l) Q) (fun j hj hS => ?_) ?_
  · obtain ⟨a, b, -⟩ := h.drv j (by omega)
    obtain ⟨p1, p2, p3, p4, p5, p6⟩ := a.pn (j := j) (by rw [b]; omega)
    have s := a.set (k := 20) (v := (r_drv fr j).1 280 (119 + 2 * j)) (by decide) (by omega)
    have t7 : r_set (r_drv fr j).1 20 ((r_drv fr j).1 280 (119 + 2 * j)) 280 7 = (r_drv fr j).1 280 7 := by unfold r_set; rw [fl_row_self, upd_ne (by decide)]
    rw [← p4] at s
    refine c0_drB (by omega) (t2_lk hj (cnt j (by omega))) ?_
    refine t2_for (n := (c0_pn (c0_drv fc j).1 j).toInt.toNat) (S := fun i => fl_Tq (pw_P L xs) 56 64 [some (.inr (.inr (.inl (1, 1)))), some (.inl (c0_runV (c0_set (c0_drv fc j).1 20 ((c0_drv fc j).1 8 (j * 2))) (c0_drv fc j).2 i)), some (.inl (Int32.ofNat j)), some (.inl (c0_pn (c0_drv fc j).1 j)), some (.inl (Int32.ofNat i))] [] (c0_runN (c0_set (c0_drv fc j).1 20 ((c0_drv fc j).1 8 (j * 2))) i, l) Q) (fun i hi hS2 => ?_) ?_
    · obtain ⟨r1, r2, -⟩ := s.run (0 : Int32) (k := i) (by rw [p4, t7]; omega)
      rw [p4, t7] at r2
      refine c0_drC r1.1 (by rw [p4]; omega) r1.2.1 (t2_lk hi (by omega)) ?_
      rw [t2_k1]
      exact hS2
    · refine c0_drD (t2_ln (by omega)) ?_
      rw [t2_k1]
      exact fl_Tq.fg hS ⟨rfl, rfl, rfl, True.intro⟩
  · exact c0_drE (t2_ln (cnt _ (by omega))) k
/-- driveNow -/
theorem c0_driveNow_q {L : Nat} {xs : Nat → Int32} {l : t2_L} {Q : Option fl_V → fl_M → Prop} (h : c0_K fc fr) (k : Q (some (.inl (r_drv fr (fr 280 19).toInt.toNat).2)) ((r_drv fr (fr 280 19).toInt.toNat).1, l)) : fl_Tq (pw_P L xs) 266 0 (fl_args (am_mxl (pw_P L xs) 266) [.inr (.inr (.inl (76, 277)))]) [] (fr, l) Q := by
  have n19 := h.1.2.2.2.2.2.2.2.2.2.1.1
  have c9 : (9999 : Int32).toInt = 9999 := by decide +kernel
  have q20 : t2_lo 20 = -99999 ∧ t2_hi 20 = 99999 := by decide
  have cnt : ∀ j : Nat, (j : Int) ≤ (fr 280 19).toInt → ((r_drv fr j).1 280 19).toInt = (((fr 280 19).toInt.toNat : Nat) : Int) := fun j hj => by
    obtain ⟨-, b, -⟩ := h.drv j hj
    rw [b]
    omega
  refine r_drA ?_
  refine t2_for (n := (fr 280 19).toInt.toNat) (S := fun j => fl_Tq (pw_P L xs) 266 4 [some (.inr (.inr (.inl (76, 277)))), some (.inl (r_drv fr j).2), some (.inl (Int32.ofNat j)), none] [] ((r_drv fr j).1, l) Q) (fun j hj hS => ?_) ?_
  · obtain ⟨a, b, -⟩ := h.drv j (by omega)
    obtain ⟨p1, p2, p3, p4, p5, p6⟩ := a.pn (j := j) (by rw [b]; omega)
    have s := a.set (k := 20) (v := (r_drv fr j).1 280 (119 + 2 * j)) (by decide) (by omega)
    have t7 : ∀ w : Nat, w ≠ 54 → r_set (r_drv fr j).1 20 ((r_drv fr j).1 280 (119 + 2 * j)) 280 w = (r_drv fr j).1 280 w := fun w hw => by unfold r_set; rw [fl_row_self, upd_ne (by omega)]
    have W : ∀ i : Nat, i ≤ r_pn (r_drv fr j).1 j → r_runN (r_set (r_drv fr j).1 20 ((r_drv fr j).1 280 (119 + 2 * j))) i 280 ((119 + 2 * j) + 1) = (r_drv fr j).1 280 (119 + 2 * j + 1) := fun i hi => by
      rw [s.1.run_w s.2.1 s.2.2.1 s.2.2.2 (w := (119 + 2 * j) + 1) (Or.inr (by omega)) i (by rw [t7 7 (by decide)]; omega), t7 _ (by omega)]
    have pe : (r_pn (r_drv fr j).1 j : Int) = min ((r_drv fr j).1 280 (119 + 2 * j + 1)).toInt (9999 - ((r_drv fr j).1 280 7).toInt) := by
      have tb := a.1.2.2.2.2.2.1.2.2.2
      unfold r_pn
      omega
    refine r_drB (by omega) (t2_lk hj (cnt j (by omega))) ?_
    refine t2_for (n := r_pn (r_drv fr j).1 j) (S := fun i => fl_Tq (pw_P L xs) 266 35 [some (.inr (.inr (.inl (76, 277)))), some (.inl (r_runV (r_set (r_drv fr j).1 20 ((r_drv fr j).1 280 (119 + 2 * j))) (r_drv fr j).2 i)), some (.inl (Int32.ofNat j)), some (.inl (Int32.ofNat i))] [] (r_runN (r_set (r_drv fr j).1 20 ((r_drv fr j).1 280 (119 + 2 * j))) i, l) Q) (fun i hi hS2 => ?_) ?_
    · obtain ⟨r1, r2, -⟩ := s.run (0 : Int32) (k := i) (by rw [t7 7 (by decide)]; omega)
      rw [t7 7 (by decide)] at r2
      have ei : (Int32.ofNat i).toInt = i := at_ofN (by omega)
      refine r_drC (f := r_runN (r_set (r_drv fr j).1 20 ((r_drv fr j).1 280 (119 + 2 * j))) i) (by omega) r1.1 (by omega) r1.2.2.1 r1.2.2.2 (by rw [W i (by omega)]; omega) (by omega) ?_
      rw [t2_k1]
      exact hS2
    · obtain ⟨-, r2, -⟩ := s.run (0 : Int32) (k := r_pn (r_drv fr j).1 j) (by rw [t7 7 (by decide)]; omega)
      rw [t7 7 (by decide)] at r2
      have ei : (Int32.ofNat (r_pn (r_drv fr j).1 j)).toInt = (r_pn (r_drv fr j).1 j : Nat) := at_ofN (by omega)
      have hS' := fl_Tq.fg (lv' := [some (.inr (.inr (.inl (76, 277)))), some (.inl (r_drv fr (j + 1)).2), some (.inl (Int32.ofNat (j + 1))), some (.inl (Int32.ofNat (r_pn (r_drv fr j).1 j)))]) hS ⟨rfl, rfl, rfl, True.intro⟩
      rw [← t2_k1] at hS'
      by_cases e : (Int32.ofNat (r_pn (r_drv fr j).1 j)).toInt < ((r_drv fr j).1 280 (119 + 2 * j + 1)).toInt
      · exact r_drD2 (f := r_runN (r_set (r_drv fr j).1 20 ((r_drv fr j).1 280 (119 + 2 * j))) (r_pn (r_drv fr j).1 j)) (by omega) (by rw [W _ (Nat.le_refl _)]; exact e) (by omega) hS'
      · exact r_drD (f := r_runN (r_set (r_drv fr j).1 20 ((r_drv fr j).1 280 (119 + 2 * j))) (r_pn (r_drv fr j).1 j)) (by omega) (by rw [W _ (Nat.le_refl _)]; exact e) hS'
  · exact r_drE (t2_ln (cnt _ (by omega))) k
end C0DRV

/-! ===== block 2: a setting; a drive ===== -/
section C2DRV
variable {fc fr f g : t2_F} {C n : Nat} {c x v : Int32}
noncomputable def c2_set (f : t2_F) (k : Nat) (v : Int32) : t2_F := fl_row f 184 (upd (f 184) k v)
theorem c2_I.set (h : c2_I fc fr) {k : Nat} (hk : k < 30) (hv : t2_lo k ≤ v.toInt ∧ v.toInt ≤ t2_hi k) : c2_I (c2_set fc k v) (r_set fr k v) := by
  obtain ⟨⟨⟨g5, g6, g7, g8⟩, ⟨g9, g10, g11, g12⟩, g13, g14, g15, g16⟩, rs, gx, cl, ok⟩ := h
  have P : ∀ p : Nat, p ≠ 184 → c2_set fc k v p = fc p := fun p hp => fl_row_ne hp
  have W : ∀ w : Nat, (w < 34 ∨ 64 ≤ w) → r_set fr k v 280 w = fr 280 w := fun w hw => by unfold r_set; rw [fl_row_self, upd_ne (by omega)]
  have P1 : c2_set fc k v 181 = fc 181 := P _ (by decide)
  refine ⟨⟨⟨?_, ?_, ?_, ?_⟩, ⟨?_, ?_, ?_, ?_⟩, ?_, ?_, ?_, ?_⟩, fun j hj => ?_, gx.congr ok.2.2.2.2.2.1.1.2 (fun p hp => P p (by omega)) (fun w hw => W w (by omega)), fun C hC => ?_, ?_⟩
  · rw [P1, W 2 (by decide), g5]
  · rw [P1, W 7 (by decide), g6]
  · rw [P1, W 3 (by decide), g7]
  · rw [P1, W 4 (by decide), g8]
  · rw [P1, W 5 (by decide), g9]
  · rw [P1, W 14 (by decide), g10]
  · rw [P1, W 8 (by decide), g11]
  · rw [P1, W 9 (by decide), g12]
  · rw [P1, W 10 (by decide), g13]
  · rw [P1, W 11 (by decide), g14]
  · rw [P1, W 12 (by decide), g15]
  · rw [P1, W 13 (by decide), g16]
  · unfold c2_set r_set
    rw [fl_row_self, fl_row_self]
    by_cases e : j = k
    · subst e
      rw [upd_self, upd_self]
    · rw [upd_ne e, upd_ne (by omega)]
      exact rs j hj
  · rw [W 2 (by decide)] at hC
    exact ⟨(cl C hC).1.congr (P _ (by omega)) (fun k hk => W _ (by omega)), (cl C hC).2.congr (fun j _ _ => by rw [P _ (by omega)]) (fun p hp => P p (by omega)) (fun w hw => W _ (by omega))⟩
  · refine ok.upd (fun w hw => W w (by omega)) (fun j hj => ?_) (by rw [W 5 (by decide)]; exact ok.2.1.1) (by rw [W 4 (by decide)]; exact ok.2.1.2.1) (by rw [W 7 (by decide)]; exact ok.2.1.2.2.2) (by rw [W 16 (by decide), W 20 (by decide), W 21 (by decide)]; exact ok.2.2.2.2.2.2.1) (fun C hC => ?_)
    · unfold r_set
      rw [fl_row_self]
      by_cases e : j = k
      · subst e
        rw [upd_self]
        exact hv
      · rw [upd_ne (by omega)]
        exact ok.s hj
    · exact (ok.2.2.2.2.2.2.2 C hC).congr (fun w hw => W _ (by omega)) (by rw [W 7 (by decide)]; exact Int.le_refl _)
theorem c2_I.sec_w (h : c2_I fc fr) (ht : (fr 280 7).toInt < 9999) {w : Nat} (hw : (17 ≤ w ∧ w < 20) ∨ (64 ≤ w ∧ w < 167)) : r_sec_m fr 280 w = fr 280 w := by
  obtain ⟨i1, i2, i3, i4, i5, i6, im, -, ⟨i8, -⟩, ik, -⟩ := h.chain ht
  have ok8 := i8.2.2.2.2
  have okk := ik.2.2.2.2
  unfold r_sec_m
  rw [r_goRules_w okk.2.2.2.2.1.1 okk.2.2.2.2.1.2.1 (by omega)]
  have e1 : r_goKept_m (r_goFaults_m (r_v6 fr)) 280 w = r_goFaults_m (r_v6 fr) 280 w := by
    unfold r_goKept_m
    exact r_goKept_f117_w ok8.2.1.2.2.1 (fun C hC => (ok8.2.2.2.2.2.2.2 C hC).1) ok8.2.2.2.2.2.2.1.2.2 (fun C hC => ⟨(ok8.2.2.2.2.2.2.2 C hC).2.2.2.2.2.2.2.1, (ok8.2.2.2.2.2.2.2 C hC).2.2.2.2.2.2.2.2.1⟩) (Nat.le_refl _) (Or.inl (by omega)) (by omega)
  rw [e1, r_goFaults_w im.2.2.2.2.2.2.2.2.2.2.1.2.1 (by omega), r_v6_w, r_goTaper_w (by omega)]
  unfold r_w6
  rw [r_meas_mid (by omega), r_mid_lo (by omega) (by omega) (by omega)]
  unfold r_t5
  rw [fl_row_self, upd_ne (by omega), r_goBalance_w (by omega), r_cells_lo (by omega), i2.cur.2 w (by omega) (fun C _ => by omega), r_goBus_w2, if_neg (by omega), if_neg (by omega)]
  unfold r_t1
  rw [fl_row_self, upd_ne (by omega)]
theorem c2_I.run_w (h : c2_I fc fr) (hj : c2_J fc) (hr : t2_RS fr) (hp : fr 277 7 = 0) {w : Nat} (hw : (17 ≤ w ∧ w < 20) ∨ (64 ≤ w ∧ w < 167)) : ∀ k : Nat, (fr 280 7).toInt + k ≤ 9999 → r_runN fr k 280 w = fr 280 w := by
  intro k
  induction k with
  | zero => intro _; rfl
  | succ k ih =>
    intro hk
    obtain ⟨⟨a, -⟩, t, -⟩ := h.run hj hr hp (0 : Int32) k (by omega)
    show r_sec_m (r_runN fr k) 280 w = _
    rw [a.sec_w (by omega) hw, ih (by omega)]
noncomputable def c2_pn (f : t2_F) (j : Nat) : Int32 := t2_min_v (f 188 ((j * 2) + 1)) ((9999 : Int32) - (f 181 6))
noncomputable def c2_drv (f : t2_F) : Nat → t2_F × Int32
  | 0 => (f, (0 : Int32))
  | j + 1 => (c2_runN (c2_set (c2_drv f j).1 20 ((c2_drv f j).1 188 (j * 2))) (c2_pn (c2_drv f j).1 j).toInt.toNat, c2_runV (c2_set (c2_drv f j).1 20 ((c2_drv f j).1 188 (j * 2))) (c2_drv f j).2 (c2_pn (c2_drv f j).1 j).toInt.toNat)
def c2_K (fc fr : t2_F) : Prop := c2_I fc fr ∧ c2_J fc ∧ t2_RS fr ∧ fr 277 7 = 0
theorem c2_K.set (h : c2_K fc fr) {k : Nat} (hk : k < 30) (hv : t2_lo k ≤ v.toInt ∧ v.toInt ≤ t2_hi k) : c2_K (c2_set fc k v) (r_set fr k v) := by
  obtain ⟨a, b, d, e⟩ := h
  refine ⟨a.set hk hv, b.congr (fun p hp => fl_row_ne (by omega)), d.same (fl_row_ne (by decide)), ?_⟩
  unfold r_set
  rw [fl_row_ne (by decide)]
  exact e
theorem c2_K.pn (h : c2_K fc fr) {j : Nat} (hj : (j : Int) < (fr 280 19).toInt) : (c2_pn fc j).toInt.toNat = r_pn fr j ∧ 0 ≤ (c2_pn fc j).toInt ∧ (fr 280 7).toInt + r_pn fr j ≤ 9999 ∧ fc 188 (j * 2) = fr 280 (119 + 2 * j) ∧ (-99999 ≤ (fr 280 (119 + 2 * j)).toInt ∧ (fr 280 (119 + 2 * j)).toInt ≤ 99999) ∧ (1 ≤ (fr 280 (119 + 2 * j + 1)).toInt ∧ (fr 280 (119 + 2 * j + 1)).toInt ≤ 99) := by
  obtain ⟨⟨⟨⟨g5, g6, -⟩, -⟩, -, ⟨⟨-, -, -, -, -, gp⟩, -⟩, -, ok⟩, -⟩ := h
  have b := ok.2.2.2.2.2.1.2 j hj
  have t := ok.2.1.2.2.2
  have e8 : fc 188 ((j * 2) + 1) = fr 280 (119 + 2 * j + 1) := by
    rw [gp (j * 2 + 1) (by omega)]
    congr 1
    omega
  have e80 : fc 188 (j * 2) = fr 280 (119 + 2 * j) := by
    rw [gp (j * 2) (by omega)]
    congr 1
    omega
  have c9 : (9999 : Int32).toInt = 9999 := by decide +kernel
  have s : ((9999 : Int32) - fr 280 7).toInt = 9999 - (fr 280 7).toInt := by rw [at_sub32 (by omega) (by omega), c9]
  have m : (c2_pn fc j).toInt = min (fr 280 (119 + 2 * j + 1)).toInt (9999 - (fr 280 7).toInt) := by
    unfold c2_pn
    rw [t2_min_i, e8, g6, s]
  unfold r_pn
  rw [m]
  refine ⟨rfl, by omega, by omega, e80, b.1, b.2⟩
theorem c2_K.run (h : c2_K fc fr) (v : Int32) {k : Nat} (hk : (fr 280 7).toInt + k ≤ 9999) : c2_K (c2_runN fc k) (r_runN fr k) ∧ (r_runN fr k 280 7).toInt = (fr 280 7).toInt + k ∧ c2_runV fc v k = r_runV fr v k := h.1.run h.2.1 h.2.2.1 h.2.2.2 v k hk
theorem c2_K.drv (h : c2_K fc fr) : ∀ j : Nat, (j : Int) ≤ (fr 280 19).toInt → c2_K (c2_drv fc j).1 (r_drv fr j).1 ∧ (r_drv fr j).1 280 19 = fr 280 19 ∧ (c2_drv fc j).2 = (r_drv fr j).2 := by
  have q20 : t2_lo 20 = -99999 ∧ t2_hi 20 = 99999 := by decide
  intro j
  induction j with
  | zero => intro _; exact ⟨h, rfl, rfl⟩
  | succ j ih =>
    intro hj
    obtain ⟨a, b, d⟩ := ih (by omega)
    obtain ⟨p1, p2, p3, p4, p5, p6⟩ := a.pn (j := j) (by rw [b]; omega)
    have s := a.set (k := 20) (v := (r_drv fr j).1 280 (119 + 2 * j)) (by decide) (by omega)
    have t7 : r_set (r_drv fr j).1 20 ((r_drv fr j).1 280 (119 + 2 * j)) 280 7 = (r_drv fr j).1 280 7 := by unfold r_set; rw [fl_row_self, upd_ne (by decide)]
    obtain ⟨r1, r2, r3⟩ := s.run (r_drv fr j).2 (k := r_pn (r_drv fr j).1 j) (by rw [t7]; omega)
    refine ⟨?_, ?_, ?_⟩
    · show c2_K (c2_runN (c2_set (c2_drv fc j).1 20 ((c2_drv fc j).1 188 (j * 2))) (c2_pn (c2_drv fc j).1 j).toInt.toNat) (r_runN (r_set (r_drv fr j).1 20 ((r_drv fr j).1 280 (119 + 2 * j))) (r_pn (r_drv fr j).1 j))
      rw [p1, p4]
      exact r1
    · show r_runN (r_set (r_drv fr j).1 20 ((r_drv fr j).1 280 (119 + 2 * j))) (r_pn (r_drv fr j).1 j) 280 19 = _
      rw [s.1.run_w s.2.1 s.2.2.1 s.2.2.2 (Or.inl (by decide)) _ (by rw [t7]; omega)]
      unfold r_set
      rw [fl_row_self, upd_ne (by decide), b]
    · show c2_runV (c2_set (c2_drv fc j).1 20 ((c2_drv fc j).1 188 (j * 2))) (c2_drv fc j).2 (c2_pn (c2_drv fc j).1 j).toInt.toNat = r_runV (r_set (r_drv fr j).1 20 ((r_drv fr j).1 280 (119 + 2 * j))) (r_drv fr j).2 (r_pn (r_drv fr j).1 j)
      rw [p1, p4, d]
      exact r3
theorem c2_passDrive_q {L : Nat} {xs : Nat → Int32} {l : t2_L} {Q : Option fl_V → fl_M → Prop} (h : c2_K fc fr) (k : Q (some (.inl (c2_drv fc (fr 280 19).toInt.toNat).2)) ((c2_drv fc (fr 280 19).toInt.toNat).1, l)) : fl_Tq (pw_P L xs) 56 0 (fl_args (am_mxl (pw_P L xs) 56) [.inr (.inr (.inl (49, 181)))]) [] (fc, l) Q := by
  have n19 := h.1.2.2.2.2.2.2.2.2.2.1.1
  have q20 : t2_lo 20 = -99999 ∧ t2_hi 20 = 99999 := by decide
  have cnt : ∀ j : Nat, (j : Int) ≤ (fr 280 19).toInt → ((c2_drv fc j).1 183 7).toInt = (((fr 280 19).toInt.toNat : Nat) : Int) := fun j hj => by
    obtain ⟨a, b, -⟩ := h.drv j hj
    rw [a.1.2.2.1.1.2.2.2.2.1, b]
    omega
  refine c2_drA ?_
  refine t2_for (n := (fr 280 19).toInt.toNat) (S := fun j => fl_Tq (pw_P L xs) 56 4 [some (.inr (.inr (.inl (49, 181)))), some (.inl (c2_drv fc j).2), some (.inl (Int32.ofNat j)), none, none] [] ((c2_drv fc j).1, l) Q) (fun j hj hS => ?_) ?_
  · obtain ⟨a, b, -⟩ := h.drv j (by omega)
    obtain ⟨p1, p2, p3, p4, p5, p6⟩ := a.pn (j := j) (by rw [b]; omega)
    have s := a.set (k := 20) (v := (r_drv fr j).1 280 (119 + 2 * j)) (by decide) (by omega)
    have t7 : r_set (r_drv fr j).1 20 ((r_drv fr j).1 280 (119 + 2 * j)) 280 7 = (r_drv fr j).1 280 7 := by unfold r_set; rw [fl_row_self, upd_ne (by decide)]
    rw [← p4] at s
    refine c2_drB (by omega) (t2_lk hj (cnt j (by omega))) ?_
    refine t2_for (n := (c2_pn (c2_drv fc j).1 j).toInt.toNat) (S := fun i => fl_Tq (pw_P L xs) 56 64 [some (.inr (.inr (.inl (49, 181)))), some (.inl (c2_runV (c2_set (c2_drv fc j).1 20 ((c2_drv fc j).1 188 (j * 2))) (c2_drv fc j).2 i)), some (.inl (Int32.ofNat j)), some (.inl (c2_pn (c2_drv fc j).1 j)), some (.inl (Int32.ofNat i))] [] (c2_runN (c2_set (c2_drv fc j).1 20 ((c2_drv fc j).1 188 (j * 2))) i, l) Q) (fun i hi hS2 => ?_) ?_
    · obtain ⟨r1, r2, -⟩ := s.run (0 : Int32) (k := i) (by rw [p4, t7]; omega)
      rw [p4, t7] at r2
      refine c2_drC r1.1 (by rw [p4]; omega) r1.2.1 (t2_lk hi (by omega)) ?_
      rw [t2_k1]
      exact hS2
    · refine c2_drD (t2_ln (by omega)) ?_
      rw [t2_k1]
      exact fl_Tq.fg hS ⟨rfl, rfl, rfl, True.intro⟩
  · exact c2_drE (t2_ln (cnt _ (by omega))) k
theorem c2_driveNow_q {L : Nat} {xs : Nat → Int32} {l : t2_L} {Q : Option fl_V → fl_M → Prop} (h : c2_K fc fr) (k : Q (some (.inl (r_drv fr (fr 280 19).toInt.toNat).2)) ((r_drv fr (fr 280 19).toInt.toNat).1, l)) : fl_Tq (pw_P L xs) 266 0 (fl_args (am_mxl (pw_P L xs) 266) [.inr (.inr (.inl (76, 277)))]) [] (fr, l) Q := by
  have n19 := h.1.2.2.2.2.2.2.2.2.2.1.1
  have c9 : (9999 : Int32).toInt = 9999 := by decide +kernel
  have q20 : t2_lo 20 = -99999 ∧ t2_hi 20 = 99999 := by decide
  have cnt : ∀ j : Nat, (j : Int) ≤ (fr 280 19).toInt → ((r_drv fr j).1 280 19).toInt = (((fr 280 19).toInt.toNat : Nat) : Int) := fun j hj => by
    obtain ⟨-, b, -⟩ := h.drv j hj
    rw [b]
    omega
  refine r_drA ?_
  refine t2_for (n := (fr 280 19).toInt.toNat) (S := fun j => fl_Tq (pw_P L xs) 266 4 [some (.inr (.inr (.inl (76, 277)))), some (.inl (r_drv fr j).2), some (.inl (Int32.ofNat j)), none] [] ((r_drv fr j).1, l) Q) (fun j hj hS => ?_) ?_
  · obtain ⟨a, b, -⟩ := h.drv j (by omega)
    obtain ⟨p1, p2, p3, p4, p5, p6⟩ := a.pn (j := j) (by rw [b]; omega)
    have s := a.set (k := 20) (v := (r_drv fr j).1 280 (119 + 2 * j)) (by decide) (by omega)
    have t7 : ∀ w : Nat, w ≠ 54 → r_set (r_drv fr j).1 20 ((r_drv fr j).1 280 (119 + 2 * j)) 280 w = (r_drv fr j).1 280 w := fun w hw => by unfold r_set; rw [fl_row_self, upd_ne (by omega)]
    have W : ∀ i : Nat, i ≤ r_pn (r_drv fr j).1 j → r_runN (r_set (r_drv fr j).1 20 ((r_drv fr j).1 280 (119 + 2 * j))) i 280 ((119 + 2 * j) + 1) = (r_drv fr j).1 280 (119 + 2 * j + 1) := fun i hi => by
      rw [s.1.run_w s.2.1 s.2.2.1 s.2.2.2 (w := (119 + 2 * j) + 1) (Or.inr (by omega)) i (by rw [t7 7 (by decide)]; omega), t7 _ (by omega)]
    have pe : (r_pn (r_drv fr j).1 j : Int) = min ((r_drv fr j).1 280 (119 + 2 * j + 1)).toInt (9999 - ((r_drv fr j).1 280 7).toInt) := by
      have tb := a.1.2.2.2.2.2.1.2.2.2
      unfold r_pn
      omega
    refine r_drB (by omega) (t2_lk hj (cnt j (by omega))) ?_
    refine t2_for (n := r_pn (r_drv fr j).1 j) (S := fun i => fl_Tq (pw_P L xs) 266 35 [some (.inr (.inr (.inl (76, 277)))), some (.inl (r_runV (r_set (r_drv fr j).1 20 ((r_drv fr j).1 280 (119 + 2 * j))) (r_drv fr j).2 i)), some (.inl (Int32.ofNat j)), some (.inl (Int32.ofNat i))] [] (r_runN (r_set (r_drv fr j).1 20 ((r_drv fr j).1 280 (119 + 2 * j))) i, l) Q) (fun i hi hS2 => ?_) ?_
    · obtain ⟨r1, r2, -⟩ := s.run (0 : Int32) (k := i) (by rw [t7 7 (by decide)]; omega)
      rw [t7 7 (by decide)] at r2
      have ei : (Int32.ofNat i).toInt = i := at_ofN (by omega)
      refine r2_drC (f := r_runN (r_set (r_drv fr j).1 20 ((r_drv fr j).1 280 (119 + 2 * j))) i) (by omega) r1.1 (by omega) r1.2.2.1 r1.2.2.2 (by rw [W i (by omega)]; omega) (by omega) ?_
      rw [t2_k1]
      exact hS2
    · obtain ⟨-, r2, -⟩ := s.run (0 : Int32) (k := r_pn (r_drv fr j).1 j) (by rw [t7 7 (by decide)]; omega)
      rw [t7 7 (by decide)] at r2
      have ei : (Int32.ofNat (r_pn (r_drv fr j).1 j)).toInt = (r_pn (r_drv fr j).1 j : Nat) := at_ofN (by omega)
      have hS' := fl_Tq.fg (lv' := [some (.inr (.inr (.inl (76, 277)))), some (.inl (r_drv fr (j + 1)).2), some (.inl (Int32.ofNat (j + 1))), some (.inl (Int32.ofNat (r_pn (r_drv fr j).1 j)))]) hS ⟨rfl, rfl, rfl, True.intro⟩
      rw [← t2_k1] at hS'
      by_cases e : (Int32.ofNat (r_pn (r_drv fr j).1 j)).toInt < ((r_drv fr j).1 280 (119 + 2 * j + 1)).toInt
      · exact r_drD2 (f := r_runN (r_set (r_drv fr j).1 20 ((r_drv fr j).1 280 (119 + 2 * j))) (r_pn (r_drv fr j).1 j)) (by omega) (by rw [W _ (Nat.le_refl _)]; exact e) (by omega) hS'
      · exact r_drD (f := r_runN (r_set (r_drv fr j).1 20 ((r_drv fr j).1 280 (119 + 2 * j))) (r_pn (r_drv fr j).1 j)) (by omega) (by rw [W _ (Nat.le_refl _)]; exact e) hS'
  · exact r_drE (t2_ln (cnt _ (by omega))) k
end C2DRV

end

/-! 94.34.sta24.lean.txt -/
section
/-! ===== stateAt as a function: the state that is there, or one made now ===== -/
section T2STA
variable {L : Nat} {xs : Nat → Int32} {m : fl_M} {Q : Option fl_V → fl_M → Prop}
theorem t2_stateAt_q {p i : Nat} {ii : Int32} (hg : at_Good at_XI m) (hkp : fk_K p = 73) (hi : ii.toInt = i) (hi2 : i < 20)
    (k0 : ∀ j : Nat, j < m.2.2 → (m.1 (p + 1) i).toInt = 285 + 90 * (j : Int) → Q (some (.inr (.inr (.inl (25, 285 + 90 * j))))) m)
    (k1 : ∀ x : Int32, m.1 (p + 1) i = 0 → x.toInt = 285 + 90 * (m.2.2 : Int) → at_Good at_XI (fl_up m.1 (p + 1) i x, m.2.1, m.2.2 + 1) → m.2.2 < 40 → Q (some (.inr (.inr (.inl (25, 285 + 90 * m.2.2))))) (fl_up m.1 (p + 1) i x, m.2.1, m.2.2 + 1)) :
    fl_Tq (pw_P L xs) 24 0 (fl_args (am_mxl (pw_P L xs) 24) [.inr (.inr (.inl (73, p))), .inl ii]) [] m Q := by
  have hp := at_K73 (h := 0) hkp
  have hpl : p < 285 := by omega
  have hq : p + 1 = 272 ∨ p + 1 = 274 := by omega
  have hkq : fk_K (p + 1) = 74 := by rcases hp with rfl | rfl <;> decide +kernel
  refine fl_Tq.stp rfl rfl (fl_bo rfl) rfl ?_
  refine fl_Tq.stp rfl rfl (fl_oks_ok ⟨fl_okp hkp hpl, True.intro⟩) rfl ?_
  refine fl_Tq.stp rfl rfl (fl_oks_ok ⟨fl_okp hkq (by show p + 1 < 285; omega), True.intro⟩) rfl ?_
  have e := fun la => at_row (m := m) (pc := 4 + 1) (r := []) (la := la) hq hi hi2
  by_cases h0 : m.1 (p + 1) i = 0
  · -- made now
    rw [if_pos h0] at e
    have k9 : ∀ Q : Option fl_V → fl_M → Prop, fl_Tq (pw_P L xs) 24 9 [some (.inr (.inr (.inl (73, p)))), some (.inl ii)] [] m Q → fl_Tq (pw_P L xs) 24 5 [some (.inr (.inr (.inl (73, p)))), some (.inl ii)] [.inl ii, .inr (.inr (.inl (74, p + 1)))] m Q := fun Q k la hl =>
      am_To.stp (ins := .aaload) (pc := 5) (lv := la) (st := [.int ii, .ref (p + 1)]) (M := fl_H m) (pc' := 6) (lv' := la) (st' := [.null]) (M' := fl_H m) rfl rfl rfl (e la) (am_To.stp (ins := .ifnonnull 16) (pc := 6) (lv := la) (st := [.null]) (M := fl_H m) (pc' := 9) (lv' := la) (st' := []) (M' := fl_H m) rfl rfl rfl rfl (k la hl))
    refine k9 _ ?_
    refine fl_Tq.stp rfl rfl (fl_bo rfl) rfl ?_
    refine fl_Tq.stp rfl rfl (fl_oks_ok ⟨fl_okp hkp hpl, True.intro⟩) rfl ?_
    refine fl_Tq.stp rfl rfl (fl_oks_ok ⟨fl_okp hkq (by show p + 1 < 285; omega), True.intro⟩) rfl ?_
    have hN : (fl_H m).1.length = 285 + 90 * m.2.2 := by unfold fl_H fl_N; simp
    have hh40 := hg.2.2.h40
    obtain ⟨x, hx⟩ : ∃ x : Int32, x.toInt = 285 + 90 * (m.2.2 : Int) := ⟨Int32.ofNat (285 + 90 * m.2.2), by rw [at_ofN (by omega)]; omega⟩
    obtain ⟨g1, g2, g3⟩ := at_made hg hq hi2 h0 hx
    obtain ⟨H, eH, l1, l2, l3⟩ := nw_state1 g1
    have em := at_more hg.2.2 l1 l2 l3
    intro la hl
    refine am_To.stp (ins := .new 9) (pc' := 17) (lv' := la) (st' := [.ref (fl_H m).1.length, .int ii, .ref (p + 1)]) (M' := nw_h (fl_H m) ([nw_obj0], 17)) rfl rfl rfl rfl ?_
    refine am_To.stp (ins := .dup) (pc' := 18) (lv' := la) (st' := [.ref (fl_H m).1.length, .ref (fl_H m).1.length, .int ii, .ref (p + 1)]) (M' := nw_h (fl_H m) ([nw_obj0], 17)) rfl rfl rfl rfl ?_
    refine am_To.cal (ins := .invokespecial 36) (mj := 32) (n := 1) rfl rfl rfl ?_
    refine ⟨2000, none, nw_h (fl_H m) H, nw_ev_ok (B := fl_H m) 2000 32 0 _ [] _ none H ?_, ?_⟩
    · rw [hN]
      exact eH
    · rw [em]
      have hrow := at_hrow (m := ((m.1, m.2.1, m.2.2 + 1) : fl_M)) hq
      obtain ⟨n1, n2⟩ := at_in_ok (i := ii) (n := 20) (by omega) (by omega)
      have n3 : ii.toNatClampNeg = i := by omega
      have hN2 : (fl_H (m.1, m.2.1, m.2.2 + 1)).1[285 + 90 * m.2.2]? = some (fl_ob (fk_kd (fk_K (285 + 90 * m.2.2))) (285 + 90 * m.2.2) (m.1 (285 + 90 * m.2.2)) (m.2.1 (285 + 90 * m.2.2))) := fl_get (m := (m.1, m.2.1, m.2.2 + 1)) (by show _ < fl_N (m.2.2 + 1); unfold fl_N; omega)
      rw [at_K25] at hN2
      have exN : x.toNatClampNeg = 285 + 90 * m.2.2 := by
        have : x.toNatClampNeg = x.toInt.toNat := rfl
        omega
      have hxne : x ≠ 0 := fun h => by
        rw [h] at hx
        have : (0 : Int32).toInt = 0 := rfl
        omega
      have es : am_qast (pw_P L xs) 21 la [.ref (285 + 90 * m.2.2), .int ii, .ref (p + 1)] (fl_H (m.1, m.2.1, m.2.2 + 1)) = some (22, la, [], fl_H (fl_up m.1 (p + 1) i x, m.2.1, m.2.2 + 1)) := by
        show ((match (fl_H (m.1, m.2.1, m.2.2 + 1)).1[p + 1]?, (fl_H (m.1, m.2.1, m.2.2 + 1)).1[285 + 90 * m.2.2]? with
          | some (.inl (t, n, .inr (.inr (.inr (.inr f))))), some (.inr (cj, _)) => bif decide (2 ≤ t ∧ t < 5) && (decide (pw_elt t = cj) && am_in ii n) then some (21 + 1, la, [], ((fl_H (m.1, m.2.1, m.2.2 + 1)).1.set (p + 1) (.inl (t, n, .inr (.inr (.inr (.inr (va_up f ii.toNatClampNeg (some (285 + 90 * m.2.2)))))))), (fl_H (m.1, m.2.1, m.2.2 + 1)).2)) else none
          | _, _ => none) : Option am_C) = _
        rw [hrow, hN2]
        show ((bif decide (2 ≤ 4 ∧ 4 < 5) && (decide (pw_elt 4 = 4) && am_in ii 20) then some (21 + 1, la, [], ((fl_H (m.1, m.2.1, m.2.2 + 1)).1.set (p + 1) (.inl (4, 20, .inr (.inr (.inr (.inr (va_up (fun i => if i < 20 then (if m.1 (p + 1) i = 0 then none else some (m.1 (p + 1) i).toNatClampNeg) else none) ii.toNatClampNeg (some (285 + 90 * m.2.2)))))))), (fl_H (m.1, m.2.1, m.2.2 + 1)).2)) else none) : Option am_C) = _
        rw [n1, n3]
        have ef : va_up (fun i => if i < 20 then (if m.1 (p + 1) i = 0 then none else some (m.1 (p + 1) i).toNatClampNeg) else none) i (some (285 + 90 * m.2.2)) = (fun j => if j < 20 then (if upd (m.1 (p + 1)) i x j = 0 then none else some (upd (m.1 (p + 1)) i x j).toNatClampNeg) else none) := by
          funext j
          unfold va_up upd
          by_cases hj : j = i
          · rw [if_pos hj, if_pos hj, if_pos (by omega), if_neg hxne, exN]
          · rw [if_neg hj, if_neg hj]
        rw [ef]
        have hset := fl_setR (m := ((m.1, m.2.1, m.2.2 + 1) : fl_M)) (p := p + 1) (w := upd (m.1 (p + 1)) i x) (by show p + 1 < fl_N (m.2.2 + 1); unfold fl_N; omega)
        rw [hkq] at hset
        rw [fl_up_row]
        show some (22, la, [], ((fl_H (m.1, m.2.1, m.2.2 + 1)).1.set (p + 1) (fl_ob (fk_kd 74) (p + 1) (upd (m.1 (p + 1)) i x) (m.2.1 (p + 1))), (fl_H (m.1, m.2.1, m.2.2 + 1)).2)) = _
        rw [hset]
      refine am_To.stp (ins := .aastore) (pc' := 22) (lv' := la) (st' := []) (M' := fl_H (fl_up m.1 (p + 1) i x, m.2.1, m.2.2 + 1)) rfl rfl rfl ?_ ?_
      · rw [hN]
        exact es
      · refine at_t22 (m := (fl_up m.1 (p + 1) i x, m.2.1, m.2.2 + 1)) (x := 285 + 90 * m.2.2) hkp hpl hkq hq hi hi2 ?_ ?_ (k1 x h0 hx g2 g1) la hl
        · show fl_up m.1 (p + 1) i x (p + 1) i ≠ 0
          rw [bl_ue]
          exact hxne
        · show (fl_up m.1 (p + 1) i x (p + 1) i).toInt = _
          rw [bl_ue, hx]
          omega
  · -- there already
    rw [if_neg h0] at e
    obtain ⟨j, hj, hx⟩ : ∃ j, j < m.2.2 ∧ (m.1 (p + 1) i).toInt = 285 + 90 * (j : Int) := by
      rcases hg.2.2.1 (p + 1) hq i hi2 with h | h
      · exact absurd h h0
      · exact h
    have ex : (m.1 (p + 1) i).toNatClampNeg = 285 + 90 * j := by
      have : (m.1 (p + 1) i).toNatClampNeg = (m.1 (p + 1) i).toInt.toNat := rfl
      omega
    rw [ex] at e
    refine fl_Tq.gen (ins := .aaload) (pc' := 6) (lv' := [some (.inr (.inr (.inl (73, p)))), some (.inl ii)]) (st' := [.inr (.inr (.inl (25, 285 + 90 * j)))]) rfl rfl rfl (fun la hl => ⟨la, e la, hl⟩) ?_
    refine fl_Tq.gen (ins := .ifnonnull 16) (pc' := 22) (lv' := [some (.inr (.inr (.inl (73, p)))), some (.inl ii)]) (st' := []) rfl rfl rfl (fun la hl => ⟨la, rfl, hl⟩) ?_
    have h40 := hg.2.2.h40
    refine at_t22 (x := 285 + 90 * j) hkp hpl hkq hq hi hi2 h0 (by omega) (k0 j hj hx)
end T2STA

end
