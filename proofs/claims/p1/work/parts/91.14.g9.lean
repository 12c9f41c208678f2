noncomputable def c0_tell_v (f : t2_F) (x : Int32) : Int32 := if x.toInt = 0 then f 1 5 else (if x.toInt = 1 then f 1 7 else (if x.toInt = 2 then f 1 8 else (if x.toInt = 3 then c0_packAt_v f (f 1 9) else (if x.toInt = 4 then f 1 9 else (if x.toInt = 5 then f 10 3 else (if x.toInt = 6 then f 1 6 else (if x.toInt = 7 then f 1 11 else (if x.toInt = 8 then f 1 12 else (if x.toInt = 9 then f 1 13 else (if x.toInt = 10 then f 1 14 else (if x.toInt = 11 then f 1 15 else (if x.toInt = 12 then f 3 7 else (if x.toInt = 13 then f 1 16 else (if x.toInt = 14 then c0_actualBits_v f else (if x.toInt = 15 then f 3 6 else (-1000000000 : Int32))))))))))))))))
theorem c0_tell_q {L : Nat} {xs : Nat → Int32} {f : t2_F} {l : t2_L} {Q : Option fl_V → fl_M → Prop} {x : Int32} (hc : 0 ≤ (f 1 5).toInt ∧ (f 1 5).toInt ≤ 16) (k : Q (some (.inl (c0_tell_v f x))) (f, l)) : fl_Tq (pw_P L xs) 72 0 (fl_args (am_mxl (pw_P L xs) 72) [.inr (.inr (.inl (1, 1))), .inl x]) [] (f, l) Q := by
  refine fl_Tq.stp (pc' := 1) (lv' := [some (.inr (.inr (.inl (1, 1)))), some (.inl x)]) (st' := [.inl x]) (m' := (f, l)) rfl rfl (fl_bo rfl) rfl ?_
  by_cases h1 : x.toInt = 0
  · refine fl_Tq.swI (k := 0) rfl (fl_bo rfl) h1 rfl rfl ?_
    refine fl_Tq.stp (pc' := 81) (lv' := [some (.inr (.inr (.inl (1, 1)))), some (.inl x)]) (st' := [.inr (.inr (.inl (1, 1)))]) (m' := (f, l)) rfl rfl (fl_bo rfl) rfl ?_
    refine fl_Tq.gfV (k := 5) (v := f 1 5) rfl (fl_bo rfl) rfl rfl ?_
    refine fl_Tq.ret rfl rfl rfl ?_
    unfold c0_tell_v at k
    simp only [if_pos h1] at k
    exact k
  by_cases h2 : x.toInt = 1
  · refine fl_Tq.swI (k := 1) rfl (fl_bo rfl) h2 rfl rfl ?_
    refine fl_Tq.stp (pc' := 86) (lv' := [some (.inr (.inr (.inl (1, 1)))), some (.inl x)]) (st' := [.inr (.inr (.inl (1, 1)))]) (m' := (f, l)) rfl rfl (fl_bo rfl) rfl ?_
    refine fl_Tq.gfV (k := 7) (v := f 1 7) rfl (fl_bo rfl) rfl rfl ?_
    refine fl_Tq.ret rfl rfl rfl ?_
    unfold c0_tell_v at k
    simp only [if_neg h1, if_pos h2] at k
    exact k
  by_cases h3 : x.toInt = 2
  · refine fl_Tq.swI (k := 2) rfl (fl_bo rfl) h3 rfl rfl ?_
    refine fl_Tq.stp (pc' := 91) (lv' := [some (.inr (.inr (.inl (1, 1)))), some (.inl x)]) (st' := [.inr (.inr (.inl (1, 1)))]) (m' := (f, l)) rfl rfl (fl_bo rfl) rfl ?_
    refine fl_Tq.gfV (k := 8) (v := f 1 8) rfl (fl_bo rfl) rfl rfl ?_
    refine fl_Tq.ret rfl rfl rfl ?_
    unfold c0_tell_v at k
    simp only [if_neg h1, if_neg h2, if_pos h3] at k
    exact k
  by_cases h4 : x.toInt = 3
  · refine fl_Tq.swI (k := 3) rfl (fl_bo rfl) h4 rfl rfl ?_
    refine fl_Tq.stp (pc' := 96) (lv' := [some (.inr (.inr (.inl (1, 1)))), some (.inl x)]) (st' := [.inr (.inr (.inl (1, 1)))]) (m' := (f, l)) rfl rfl (fl_bo rfl) rfl ?_
    refine fl_Tq.stp (pc' := 97) (lv' := [some (.inr (.inr (.inl (1, 1)))), some (.inl x)]) (st' := [.inr (.inr (.inl (1, 1))), .inr (.inr (.inl (1, 1)))]) (m' := (f, l)) rfl rfl (fl_bo rfl) rfl ?_
    refine fl_Tq.gfV (k := 9) (v := f 1 9) rfl (fl_bo rfl) rfl rfl ?_
    refine fl_Tq.cal rfl rfl (fl_bo rfl) rfl ?_
    refine c0_packAt_q hc ?_
    show fl_Tq _ 72 103 [some (.inr (.inr (.inl (1, 1)))), some (.inl x)] [.inl (c0_packAt_v f (f 1 9))] (f, l) _
    refine fl_Tq.ret rfl rfl rfl ?_
    unfold c0_tell_v at k
    simp only [if_neg h1, if_neg h2, if_neg h3, if_pos h4] at k
    exact k
  by_cases h5 : x.toInt = 4
  · refine fl_Tq.swI (k := 4) rfl (fl_bo rfl) h5 rfl rfl ?_
    refine fl_Tq.stp (pc' := 105) (lv' := [some (.inr (.inr (.inl (1, 1)))), some (.inl x)]) (st' := [.inr (.inr (.inl (1, 1)))]) (m' := (f, l)) rfl rfl (fl_bo rfl) rfl ?_
    refine fl_Tq.gfV (k := 9) (v := f 1 9) rfl (fl_bo rfl) rfl rfl ?_
    refine fl_Tq.ret rfl rfl rfl ?_
    unfold c0_tell_v at k
    simp only [if_neg h1, if_neg h2, if_neg h3, if_neg h4, if_pos h5] at k
    exact k
  by_cases h6 : x.toInt = 5
  · refine fl_Tq.swI (k := 5) rfl (fl_bo rfl) h6 rfl rfl ?_
    refine fl_Tq.stp (pc' := 110) (lv' := [some (.inr (.inr (.inl (1, 1)))), some (.inl x)]) (st' := [.inr (.inr (.inl (1, 1)))]) (m' := (f, l)) rfl rfl (fl_bo rfl) rfl ?_
    refine fl_Tq.stp (pc' := 113) (lv' := [some (.inr (.inr (.inl (1, 1)))), some (.inl x)]) (st' := [.inr (.inr (.inl (10, 10)))]) (m' := (f, l)) rfl rfl (fl_bo rfl) rfl ?_
    refine fl_Tq.gfV (k := 3) (v := f 10 3) rfl (fl_bo rfl) rfl rfl ?_
    refine fl_Tq.ret rfl rfl rfl ?_
    unfold c0_tell_v at k
    simp only [if_neg h1, if_neg h2, if_neg h3, if_neg h4, if_neg h5, if_pos h6] at k
    exact k
  by_cases h7 : x.toInt = 6
  · refine fl_Tq.swI (k := 6) rfl (fl_bo rfl) h7 rfl rfl ?_
    refine fl_Tq.stp (pc' := 118) (lv' := [some (.inr (.inr (.inl (1, 1)))), some (.inl x)]) (st' := [.inr (.inr (.inl (1, 1)))]) (m' := (f, l)) rfl rfl (fl_bo rfl) rfl ?_
    refine fl_Tq.gfV (k := 6) (v := f 1 6) rfl (fl_bo rfl) rfl rfl ?_
    refine fl_Tq.ret rfl rfl rfl ?_
    unfold c0_tell_v at k
    simp only [if_neg h1, if_neg h2, if_neg h3, if_neg h4, if_neg h5, if_neg h6, if_pos h7] at k
    exact k
  by_cases h8 : x.toInt = 7
  · refine fl_Tq.swI (k := 7) rfl (fl_bo rfl) h8 rfl rfl ?_
    refine fl_Tq.stp (pc' := 123) (lv' := [some (.inr (.inr (.inl (1, 1)))), some (.inl x)]) (st' := [.inr (.inr (.inl (1, 1)))]) (m' := (f, l)) rfl rfl (fl_bo rfl) rfl ?_
    refine fl_Tq.gfV (k := 11) (v := f 1 11) rfl (fl_bo rfl) rfl rfl ?_
    refine fl_Tq.ret rfl rfl rfl ?_
    unfold c0_tell_v at k
    simp only [if_neg h1, if_neg h2, if_neg h3, if_neg h4, if_neg h5, if_neg h6, if_neg h7, if_pos h8] at k
    exact k
  by_cases h9 : x.toInt = 8
  · refine fl_Tq.swI (k := 8) rfl (fl_bo rfl) h9 rfl rfl ?_
    refine fl_Tq.stp (pc' := 128) (lv' := [some (.inr (.inr (.inl (1, 1)))), some (.inl x)]) (st' := [.inr (.inr (.inl (1, 1)))]) (m' := (f, l)) rfl rfl (fl_bo rfl) rfl ?_
    refine fl_Tq.gfV (k := 12) (v := f 1 12) rfl (fl_bo rfl) rfl rfl ?_
    refine fl_Tq.ret rfl rfl rfl ?_
    unfold c0_tell_v at k
    simp only [if_neg h1, if_neg h2, if_neg h3, if_neg h4, if_neg h5, if_neg h6, if_neg h7, if_neg h8, if_pos h9] at k
    exact k
  by_cases h10 : x.toInt = 9
  · refine fl_Tq.swI (k := 9) rfl (fl_bo rfl) h10 rfl rfl ?_
    refine fl_Tq.stp (pc' := 133) (lv' := [some (.inr (.inr (.inl (1, 1)))), some (.inl x)]) (st' := [.inr (.inr (.inl (1, 1)))]) (m' := (f, l)) rfl rfl (fl_bo rfl) rfl ?_
    refine fl_Tq.gfV (k := 13) (v := f 1 13) rfl (fl_bo rfl) rfl rfl ?_
    refine fl_Tq.ret rfl rfl rfl ?_
    unfold c0_tell_v at k
    simp only [if_neg h1, if_neg h2, if_neg h3, if_neg h4, if_neg h5, if_neg h6, if_neg h7, if_neg h8, if_neg h9, if_pos h10] at k
    exact k
  by_cases h11 : x.toInt = 10
  · refine fl_Tq.swI (k := 10) rfl (fl_bo rfl) h11 rfl rfl ?_
    refine fl_Tq.stp (pc' := 138) (lv' := [some (.inr (.inr (.inl (1, 1)))), some (.inl x)]) (st' := [.inr (.inr (.inl (1, 1)))]) (m' := (f, l)) rfl rfl (fl_bo rfl) rfl ?_
    refine fl_Tq.gfV (k := 14) (v := f 1 14) rfl (fl_bo rfl) rfl rfl ?_
    refine fl_Tq.ret rfl rfl rfl ?_
    unfold c0_tell_v at k
    simp only [if_neg h1, if_neg h2, if_neg h3, if_neg h4, if_neg h5, if_neg h6, if_neg h7, if_neg h8, if_neg h9, if_neg h10, if_pos h11] at k
    exact k
  by_cases h12 : x.toInt = 11
  · refine fl_Tq.swI (k := 11) rfl (fl_bo rfl) h12 rfl rfl ?_
    refine fl_Tq.stp (pc' := 143) (lv' := [some (.inr (.inr (.inl (1, 1)))), some (.inl x)]) (st' := [.inr (.inr (.inl (1, 1)))]) (m' := (f, l)) rfl rfl (fl_bo rfl) rfl ?_
    refine fl_Tq.gfV (k := 15) (v := f 1 15) rfl (fl_bo rfl) rfl rfl ?_
    refine fl_Tq.ret rfl rfl rfl ?_
    unfold c0_tell_v at k
    simp only [if_neg h1, if_neg h2, if_neg h3, if_neg h4, if_neg h5, if_neg h6, if_neg h7, if_neg h8, if_neg h9, if_neg h10, if_neg h11, if_pos h12] at k
    exact k
  by_cases h13 : x.toInt = 12
  · refine fl_Tq.swI (k := 12) rfl (fl_bo rfl) h13 rfl rfl ?_
    refine fl_Tq.stp (pc' := 148) (lv' := [some (.inr (.inr (.inl (1, 1)))), some (.inl x)]) (st' := [.inr (.inr (.inl (1, 1)))]) (m' := (f, l)) rfl rfl (fl_bo rfl) rfl ?_
    refine fl_Tq.stp (pc' := 151) (lv' := [some (.inr (.inr (.inl (1, 1)))), some (.inl x)]) (st' := [.inr (.inr (.inl (3, 3)))]) (m' := (f, l)) rfl rfl (fl_bo rfl) rfl ?_
    refine fl_Tq.gfV (k := 7) (v := f 3 7) rfl (fl_bo rfl) rfl rfl ?_
    refine fl_Tq.ret rfl rfl rfl ?_
    unfold c0_tell_v at k
    simp only [if_neg h1, if_neg h2, if_neg h3, if_neg h4, if_neg h5, if_neg h6, if_neg h7, if_neg h8, if_neg h9, if_neg h10, if_neg h11, if_neg h12, if_pos h13] at k
    exact k
  by_cases h14 : x.toInt = 13
  · refine fl_Tq.swI (k := 13) rfl (fl_bo rfl) h14 rfl rfl ?_
    refine fl_Tq.stp (pc' := 156) (lv' := [some (.inr (.inr (.inl (1, 1)))), some (.inl x)]) (st' := [.inr (.inr (.inl (1, 1)))]) (m' := (f, l)) rfl rfl (fl_bo rfl) rfl ?_
    refine fl_Tq.gfV (k := 16) (v := f 1 16) rfl (fl_bo rfl) rfl rfl ?_
    refine fl_Tq.ret rfl rfl rfl ?_
    unfold c0_tell_v at k
    simp only [if_neg h1, if_neg h2, if_neg h3, if_neg h4, if_neg h5, if_neg h6, if_neg h7, if_neg h8, if_neg h9, if_neg h10, if_neg h11, if_neg h12, if_neg h13, if_pos h14] at k
    exact k
  by_cases h15 : x.toInt = 14
  · refine fl_Tq.swI (k := 14) rfl (fl_bo rfl) h15 rfl rfl ?_
    refine fl_Tq.stp (pc' := 161) (lv' := [some (.inr (.inr (.inl (1, 1)))), some (.inl x)]) (st' := [.inr (.inr (.inl (1, 1)))]) (m' := (f, l)) rfl rfl (fl_bo rfl) rfl ?_
    refine fl_Tq.cal rfl rfl (fl_bo rfl) rfl ?_
    refine c0_actualBits_q  ?_
    show fl_Tq _ 72 164 [some (.inr (.inr (.inl (1, 1)))), some (.inl x)] [.inl (c0_actualBits_v f)] (f, l) _
    refine fl_Tq.ret rfl rfl rfl ?_
    unfold c0_tell_v at k
    simp only [if_neg h1, if_neg h2, if_neg h3, if_neg h4, if_neg h5, if_neg h6, if_neg h7, if_neg h8, if_neg h9, if_neg h10, if_neg h11, if_neg h12, if_neg h13, if_neg h14, if_pos h15] at k
    exact k
  by_cases h16 : x.toInt = 15
  · refine fl_Tq.swI (k := 15) rfl (fl_bo rfl) h16 rfl rfl ?_
    refine fl_Tq.stp (pc' := 166) (lv' := [some (.inr (.inr (.inl (1, 1)))), some (.inl x)]) (st' := [.inr (.inr (.inl (1, 1)))]) (m' := (f, l)) rfl rfl (fl_bo rfl) rfl ?_
    refine fl_Tq.stp (pc' := 169) (lv' := [some (.inr (.inr (.inl (1, 1)))), some (.inl x)]) (st' := [.inr (.inr (.inl (3, 3)))]) (m' := (f, l)) rfl rfl (fl_bo rfl) rfl ?_
    refine fl_Tq.gfV (k := 6) (v := f 3 6) rfl (fl_bo rfl) rfl rfl ?_
    refine fl_Tq.ret rfl rfl rfl ?_
    unfold c0_tell_v at k
    simp only [if_neg h1, if_neg h2, if_neg h3, if_neg h4, if_neg h5, if_neg h6, if_neg h7, if_neg h8, if_neg h9, if_neg h10, if_neg h11, if_neg h12, if_neg h13, if_neg h14, if_neg h15, if_pos h16] at k
    exact k
  refine fl_Tq.swD rfl (fl_bo rfl) (by omega) rfl ?_
  refine fl_Tq.stp (pc' := 176) (lv' := [some (.inr (.inr (.inl (1, 1)))), some (.inl x)]) (st' := [.inl (-1000000000 : Int32)]) (m' := (f, l)) rfl rfl (fl_bo rfl) rfl ?_
  refine fl_Tq.ret rfl rfl rfl ?_
  unfold c0_tell_v at k
  simp only [if_neg h1, if_neg h2, if_neg h3, if_neg h4, if_neg h5, if_neg h6, if_neg h7, if_neg h8, if_neg h9, if_neg h10, if_neg h11, if_neg h12, if_neg h13, if_neg h14, if_neg h15, if_neg h16] at k
  exact k
noncomputable def c0_faultsOfPack_j13_0 (f : t2_F)  : Int32 := if (f 1 7).toInt = (2 : Int32).toInt then (if (f 4 4).toInt < (t2_abs_v (f 4 20)).toInt then (1 : Int32) else (0 : Int32)) else (0 : Int32)
noncomputable def c0_faultsOfPack_j36_0 (f : t2_F)  : Int32 := if (c0_faultsOfPack_j13_0 f).toInt = 0 then (0 : Int32) else (16 : Int32)
noncomputable def c0_faultsOfPack_j59_0 (f : t2_F)  : Int32 := if (f 4 9).toInt < (f 4 10).toInt then (1 : Int32) else (0 : Int32)
noncomputable def c0_faultsOfPack_j81_0 (f : t2_F)  : Int32 := if (f 4 17).toInt < (c0_partSpread_v (c0_leakBit_m f (c0_faultsOfPack_j59_0 f))).toInt then (128 : Int32) else (0 : Int32)
noncomputable def c0_faultsOfPack_j138_0 (f : t2_F)  : Int32 := if (f 4 29).toInt = 0 then (1024 : Int32) else (0 : Int32)
noncomputable def c0_faultsOfPack_j138_1 (f : t2_F)  : Int32 := if (f 4 29).toInt = 0 then (1024 : Int32) else (0 : Int32)
noncomputable def c0_faultsOfPack_v (f : t2_F) : Int32 := if (c0_actualBits_v (c0_leakBit_m f (c0_faultsOfPack_j59_0 f))).toInt = (c0_orderedBits_v (c0_leakBit_m f (c0_faultsOfPack_j59_0 f))).toInt then (((((c0_faultsOfPack_j36_0 f) ||| (c0_leakBit_v f (c0_faultsOfPack_j59_0 f))) ||| (c0_faultsOfPack_j81_0 f)) ||| c0_weldBit0_v) ||| (c0_silentBit_v (c0_weldBit0_m (c0_leakBit_m f (c0_faultsOfPack_j59_0 f))) (f 4 28))) ||| (c0_faultsOfPack_j138_0 f) else (((((c0_faultsOfPack_j36_0 f) ||| (c0_leakBit_v f (c0_faultsOfPack_j59_0 f))) ||| (c0_faultsOfPack_j81_0 f)) ||| (c0_weldBit1_v (c0_leakBit_m f (c0_faultsOfPack_j59_0 f)))) ||| (c0_silentBit_v (c0_weldBit1_m (c0_leakBit_m f (c0_faultsOfPack_j59_0 f))) (f 4 28))) ||| (c0_faultsOfPack_j138_1 f)
noncomputable def c0_faultsOfPack_m (f : t2_F) : t2_F := if (c0_actualBits_v (c0_leakBit_m f (c0_faultsOfPack_j59_0 f))).toInt = (c0_orderedBits_v (c0_leakBit_m f (c0_faultsOfPack_j59_0 f))).toInt then c0_silentBit_m (c0_weldBit0_m (c0_leakBit_m f (c0_faultsOfPack_j59_0 f))) (f 4 28) else c0_silentBit_m (c0_weldBit1_m (c0_leakBit_m f (c0_faultsOfPack_j59_0 f))) (f 4 28)
theorem c0_faultsOfPack_fr {f : t2_F}  {p : Nat} (e0 : p ≠ 10) : c0_faultsOfPack_m f p = f p := by
  unfold c0_faultsOfPack_m
  repeat' split
  all_goals first | rfl | simp only [fl_row_ne e0, c0_silentBit_fr e0, c0_weldBit0_fr e0, c0_leakBit_fr e0, c0_weldBit1_fr e0]
theorem c0_faultsOfPack_q {L : Nat} {xs : Nat → Int32} {f : t2_F} {l : t2_L} {Q : Option fl_V → fl_M → Prop}  (hc : 0 ≤ (f 1 5).toInt ∧ (f 1 5).toInt ≤ 16) (k : Q (some (.inl (c0_faultsOfPack_v f))) (c0_faultsOfPack_m f, l)) : fl_Tq (pw_P L xs) 69 0 (fl_args (am_mxl (pw_P L xs) 69) [.inr (.inr (.inl (1, 1)))]) [] (f, l) Q := by
  refine fl_Tq.stp (pc' := 1) (lv' := [some (.inr (.inr (.inl (1, 1)))), none, none, none]) (st' := [.inr (.inr (.inl (1, 1)))]) (m' := (f, l)) rfl rfl (fl_bo rfl) rfl ?_
  refine fl_Tq.stp (pc' := 4) (lv' := [some (.inr (.inr (.inl (1, 1)))), none, none, none]) (st' := [.inr (.inr (.inl (3, 3)))]) (m' := (f, l)) rfl rfl (fl_bo rfl) rfl ?_
  refine fl_Tq.stp (pc' := 7) (lv' := [some (.inr (.inr (.inl (1, 1)))), none, none, none]) (st' := [.inr (.inr (.inl (4, 4)))]) (m' := (f, l)) rfl rfl (fl_bo rfl) rfl ?_
  refine fl_Tq.stp (pc' := 8) (lv' := [some (.inr (.inr (.inl (1, 1)))), some (.inr (.inr (.inl (4, 4)))), none, none]) (st' := []) (m' := (f, l)) rfl rfl (fl_bo rfl) rfl ?_
  refine fl_Tq.stp (pc' := 9) (lv' := [some (.inr (.inr (.inl (1, 1)))), some (.inr (.inr (.inl (4, 4)))), none, none]) (st' := [.inr (.inr (.inl (1, 1)))]) (m' := (f, l)) rfl rfl (fl_bo rfl) rfl ?_
  refine fl_Tq.gfV (k := 7) (v := f 1 7) rfl (fl_bo rfl) rfl rfl ?_
  refine fl_Tq.cI (c := (2 : Int32)) rfl (by decide +kernel) (fl_bo rfl) ?_
  have hj110 : fl_Tq (pw_P L xs) 69 34 [some (.inr (.inr (.inl (1, 1)))), some (.inr (.inr (.inl (4, 4)))), none, none] [.inl (c0_faultsOfPack_j13_0 f)] (f, l) Q → fl_Tq (pw_P L xs) 69 13 [some (.inr (.inr (.inl (1, 1)))), some (.inr (.inr (.inl (4, 4)))), none, none] [.inl (2 : Int32), .inl (f 1 7)] (f, l) Q := by
    intro hJ
    by_cases h1 : (f 1 7).toInt = (2 : Int32).toInt
    · refine fl_Tq.jf rfl (fl_bo rfl) (c2_ne_f h1) rfl ?_
      refine fl_Tq.stp (pc' := 17) (lv' := [some (.inr (.inr (.inl (1, 1)))), some (.inr (.inr (.inl (4, 4)))), none, none]) (st' := [.inr (.inr (.inl (4, 4)))]) (m' := (f, l)) rfl rfl (fl_bo rfl) rfl ?_
      refine fl_Tq.cB (c := (20 : Int32)) rfl (by decide +kernel) (fl_bo rfl) ?_
      refine fl_Tq.ldV (p := 4) (τ := 4) (n := 30) (z := (0, 0, 0)) (k := 20) (v := f 4 20) rfl (fl_bo rfl) rfl (by decide +kernel) (by decide) rfl ?_
      refine fl_Tq.cal rfl rfl (fl_bo rfl) rfl ?_
      refine t2_abs_q  ?_
      show fl_Tq _ 69 23 [some (.inr (.inr (.inl (1, 1)))), some (.inr (.inr (.inl (4, 4)))), none, none] [.inl (t2_abs_v (f 4 20))] (f, l) _
      refine fl_Tq.stp (pc' := 24) (lv' := [some (.inr (.inr (.inl (1, 1)))), some (.inr (.inr (.inl (4, 4)))), none, none]) (st' := [.inr (.inr (.inl (4, 4))), .inl (t2_abs_v (f 4 20))]) (m' := (f, l)) rfl rfl (fl_bo rfl) rfl ?_
      refine fl_Tq.cI (c := (4 : Int32)) rfl (by decide +kernel) (fl_bo rfl) ?_
      refine fl_Tq.ldV (p := 4) (τ := 4) (n := 30) (z := (0, 0, 0)) (k := 4) (v := f 4 4) rfl (fl_bo rfl) rfl (by decide +kernel) (by decide) rfl ?_
      by_cases h2 : (f 4 4).toInt < (t2_abs_v (f 4 20)).toInt
      · refine fl_Tq.jf rfl (fl_bo rfl) (c2_le_f h2) rfl ?_
        refine fl_Tq.cI (c := (1 : Int32)) rfl (by decide +kernel) (fl_bo rfl) ?_
        refine fl_Tq.stp (pc' := 34) (lv' := [some (.inr (.inr (.inl (1, 1)))), some (.inr (.inr (.inl (4, 4)))), none, none]) (st' := [.inl (1 : Int32)]) (m' := (f, l)) rfl rfl (fl_bo rfl) rfl ?_
        have e0 : (c0_faultsOfPack_j13_0 f) = (1 : Int32) := by simp only [c0_faultsOfPack_j13_0, if_pos h1, if_pos h2]
        rw [e0] at hJ
        exact hJ
      · refine fl_Tq.jt rfl (fl_bo rfl) (c2_le_t h2) rfl ?_
        refine fl_Tq.cI (c := (0 : Int32)) rfl (by decide +kernel) (fl_bo rfl) ?_
        have e0 : (c0_faultsOfPack_j13_0 f) = (0 : Int32) := by simp only [c0_faultsOfPack_j13_0, if_pos h1, if_neg h2]
        rw [e0] at hJ
        exact hJ
    · refine fl_Tq.jt rfl (fl_bo rfl) (c2_ne_t h1) rfl ?_
      refine fl_Tq.cI (c := (0 : Int32)) rfl (by decide +kernel) (fl_bo rfl) ?_
      have e0 : (c0_faultsOfPack_j13_0 f) = (0 : Int32) := by simp only [c0_faultsOfPack_j13_0, if_neg h1]
      rw [e0] at hJ
      exact hJ
  refine hj110 ?_
  show fl_Tq _ 69 34 [some (.inr (.inr (.inl (1, 1)))), some (.inr (.inr (.inl (4, 4)))), none, none] [.inl (c0_faultsOfPack_j13_0 f)] (f, l) _
  refine fl_Tq.stp (pc' := 35) (lv' := [some (.inr (.inr (.inl (1, 1)))), some (.inr (.inr (.inl (4, 4)))), some (.inl (c0_faultsOfPack_j13_0 f)), none]) (st' := []) (m' := (f, l)) rfl rfl (fl_bo rfl) rfl ?_
  refine fl_Tq.stp (pc' := 36) (lv' := [some (.inr (.inr (.inl (1, 1)))), some (.inr (.inr (.inl (4, 4)))), some (.inl (c0_faultsOfPack_j13_0 f)), none]) (st' := [.inl (c0_faultsOfPack_j13_0 f)]) (m' := (f, l)) rfl rfl (fl_bo rfl) rfl ?_
  have hj111 : fl_Tq (pw_P L xs) 69 45 [some (.inr (.inr (.inl (1, 1)))), some (.inr (.inr (.inl (4, 4)))), some (.inl (c0_faultsOfPack_j13_0 f)), none] [.inl (c0_faultsOfPack_j36_0 f)] (f, l) Q → fl_Tq (pw_P L xs) 69 36 [some (.inr (.inr (.inl (1, 1)))), some (.inr (.inr (.inl (4, 4)))), some (.inl (c0_faultsOfPack_j13_0 f)), none] [.inl (c0_faultsOfPack_j13_0 f)] (f, l) Q := by
    intro hJ
    by_cases h3 : (c0_faultsOfPack_j13_0 f).toInt = 0
    · refine fl_Tq.zt rfl (fl_bo rfl) (c1_eq_t h3) rfl ?_
      refine fl_Tq.cI (c := (0 : Int32)) rfl (by decide +kernel) (fl_bo rfl) ?_
      have e0 : (c0_faultsOfPack_j36_0 f) = (0 : Int32) := by simp only [c0_faultsOfPack_j36_0, if_pos h3]
      rw [e0] at hJ
      exact hJ
    · refine fl_Tq.zf rfl (fl_bo rfl) (c1_eq_f h3) rfl ?_
      refine fl_Tq.cB (c := (16 : Int32)) rfl (by decide +kernel) (fl_bo rfl) ?_
      refine fl_Tq.stp (pc' := 45) (lv' := [some (.inr (.inr (.inl (1, 1)))), some (.inr (.inr (.inl (4, 4)))), some (.inl (c0_faultsOfPack_j13_0 f)), none]) (st' := [.inl (16 : Int32)]) (m' := (f, l)) rfl rfl (fl_bo rfl) rfl ?_
      have e0 : (c0_faultsOfPack_j36_0 f) = (16 : Int32) := by simp only [c0_faultsOfPack_j36_0, if_neg h3]
      rw [e0] at hJ
      exact hJ
  refine hj111 ?_
  show fl_Tq _ 69 45 [some (.inr (.inr (.inl (1, 1)))), some (.inr (.inr (.inl (4, 4)))), some (.inl (c0_faultsOfPack_j13_0 f)), none] [.inl (c0_faultsOfPack_j36_0 f)] (f, l) _
  refine fl_Tq.stp (pc' := 46) (lv' := [some (.inr (.inr (.inl (1, 1)))), some (.inr (.inr (.inl (4, 4)))), some (.inl (c0_faultsOfPack_j13_0 f)), some (.inl (c0_faultsOfPack_j36_0 f))]) (st' := []) (m' := (f, l)) rfl rfl (fl_bo rfl) rfl ?_
  refine fl_Tq.stp (pc' := 47) (lv' := [some (.inr (.inr (.inl (1, 1)))), some (.inr (.inr (.inl (4, 4)))), some (.inl (c0_faultsOfPack_j13_0 f)), some (.inl (c0_faultsOfPack_j36_0 f))]) (st' := [.inl (c0_faultsOfPack_j36_0 f)]) (m' := (f, l)) rfl rfl (fl_bo rfl) rfl ?_
  refine fl_Tq.stp (pc' := 48) (lv' := [some (.inr (.inr (.inl (1, 1)))), some (.inr (.inr (.inl (4, 4)))), some (.inl (c0_faultsOfPack_j13_0 f)), some (.inl (c0_faultsOfPack_j36_0 f))]) (st' := [.inr (.inr (.inl (1, 1))), .inl (c0_faultsOfPack_j36_0 f)]) (m' := (f, l)) rfl rfl (fl_bo rfl) rfl ?_
  refine fl_Tq.stp (pc' := 51) (lv' := [some (.inr (.inr (.inl (1, 1)))), some (.inr (.inr (.inl (4, 4)))), some (.inl (c0_faultsOfPack_j13_0 f)), some (.inl (c0_faultsOfPack_j36_0 f))]) (st' := [.inr (.inr (.inl (10, 10))), .inl (c0_faultsOfPack_j36_0 f)]) (m' := (f, l)) rfl rfl (fl_bo rfl) rfl ?_
  refine fl_Tq.stp (pc' := 52) (lv' := [some (.inr (.inr (.inl (1, 1)))), some (.inr (.inr (.inl (4, 4)))), some (.inl (c0_faultsOfPack_j13_0 f)), some (.inl (c0_faultsOfPack_j36_0 f))]) (st' := [.inr (.inr (.inl (4, 4))), .inr (.inr (.inl (10, 10))), .inl (c0_faultsOfPack_j36_0 f)]) (m' := (f, l)) rfl rfl (fl_bo rfl) rfl ?_
  refine fl_Tq.cB (c := (9 : Int32)) rfl (by decide +kernel) (fl_bo rfl) ?_
  refine fl_Tq.ldV (p := 4) (τ := 4) (n := 30) (z := (0, 0, 0)) (k := 9) (v := f 4 9) rfl (fl_bo rfl) rfl (by decide +kernel) (by decide) rfl ?_
  refine fl_Tq.stp (pc' := 56) (lv' := [some (.inr (.inr (.inl (1, 1)))), some (.inr (.inr (.inl (4, 4)))), some (.inl (c0_faultsOfPack_j13_0 f)), some (.inl (c0_faultsOfPack_j36_0 f))]) (st' := [.inr (.inr (.inl (4, 4))), .inl (f 4 9), .inr (.inr (.inl (10, 10))), .inl (c0_faultsOfPack_j36_0 f)]) (m' := (f, l)) rfl rfl (fl_bo rfl) rfl ?_
  refine fl_Tq.cB (c := (10 : Int32)) rfl (by decide +kernel) (fl_bo rfl) ?_
  refine fl_Tq.ldV (p := 4) (τ := 4) (n := 30) (z := (0, 0, 0)) (k := 10) (v := f 4 10) rfl (fl_bo rfl) rfl (by decide +kernel) (by decide) rfl ?_
  have hj112 : fl_Tq (pw_P L xs) 69 67 [some (.inr (.inr (.inl (1, 1)))), some (.inr (.inr (.inl (4, 4)))), some (.inl (c0_faultsOfPack_j13_0 f)), some (.inl (c0_faultsOfPack_j36_0 f))] [.inl (c0_faultsOfPack_j59_0 f), .inr (.inr (.inl (10, 10))), .inl (c0_faultsOfPack_j36_0 f)] (f, l) Q → fl_Tq (pw_P L xs) 69 59 [some (.inr (.inr (.inl (1, 1)))), some (.inr (.inr (.inl (4, 4)))), some (.inl (c0_faultsOfPack_j13_0 f)), some (.inl (c0_faultsOfPack_j36_0 f))] [.inl (f 4 10), .inl (f 4 9), .inr (.inr (.inl (10, 10))), .inl (c0_faultsOfPack_j36_0 f)] (f, l) Q := by
    intro hJ
    by_cases h4 : (f 4 9).toInt < (f 4 10).toInt
    · refine fl_Tq.jf rfl (fl_bo rfl) (c2_ge_f h4) rfl ?_
      refine fl_Tq.cI (c := (1 : Int32)) rfl (by decide +kernel) (fl_bo rfl) ?_
      refine fl_Tq.stp (pc' := 67) (lv' := [some (.inr (.inr (.inl (1, 1)))), some (.inr (.inr (.inl (4, 4)))), some (.inl (c0_faultsOfPack_j13_0 f)), some (.inl (c0_faultsOfPack_j36_0 f))]) (st' := [.inl (1 : Int32), .inr (.inr (.inl (10, 10))), .inl (c0_faultsOfPack_j36_0 f)]) (m' := (f, l)) rfl rfl (fl_bo rfl) rfl ?_
      have e0 : (c0_faultsOfPack_j59_0 f) = (1 : Int32) := by simp only [c0_faultsOfPack_j59_0, if_pos h4]
      rw [e0] at hJ
      exact hJ
    · refine fl_Tq.jt rfl (fl_bo rfl) (c2_ge_t h4) rfl ?_
      refine fl_Tq.cI (c := (0 : Int32)) rfl (by decide +kernel) (fl_bo rfl) ?_
      have e0 : (c0_faultsOfPack_j59_0 f) = (0 : Int32) := by simp only [c0_faultsOfPack_j59_0, if_neg h4]
      rw [e0] at hJ
      exact hJ
  refine hj112 ?_
  show fl_Tq _ 69 67 [some (.inr (.inr (.inl (1, 1)))), some (.inr (.inr (.inl (4, 4)))), some (.inl (c0_faultsOfPack_j13_0 f)), some (.inl (c0_faultsOfPack_j36_0 f))] [.inl (c0_faultsOfPack_j59_0 f), .inr (.inr (.inl (10, 10))), .inl (c0_faultsOfPack_j36_0 f)] (f, l) _
  refine fl_Tq.cal rfl rfl (fl_bo rfl) rfl ?_
  refine c0_leakBit_q  ?_
  show fl_Tq _ 69 70 [some (.inr (.inr (.inl (1, 1)))), some (.inr (.inr (.inl (4, 4)))), some (.inl (c0_faultsOfPack_j13_0 f)), some (.inl (c0_faultsOfPack_j36_0 f))] [.inl (c0_leakBit_v f (c0_faultsOfPack_j59_0 f)), .inl (c0_faultsOfPack_j36_0 f)] (c0_leakBit_m f (c0_faultsOfPack_j59_0 f), l) _
  refine fl_Tq.stp (pc' := 71) (lv' := [some (.inr (.inr (.inl (1, 1)))), some (.inr (.inr (.inl (4, 4)))), some (.inl (c0_faultsOfPack_j13_0 f)), some (.inl (c0_faultsOfPack_j36_0 f))]) (st' := [.inl ((c0_faultsOfPack_j36_0 f) ||| (c0_leakBit_v f (c0_faultsOfPack_j59_0 f)))]) (m' := (c0_leakBit_m f (c0_faultsOfPack_j59_0 f), l)) rfl rfl (fl_bo rfl) rfl ?_
  refine fl_Tq.stp (pc' := 72) (lv' := [some (.inr (.inr (.inl (1, 1)))), some (.inr (.inr (.inl (4, 4)))), some (.inl (c0_faultsOfPack_j13_0 f)), some (.inl ((c0_faultsOfPack_j36_0 f) ||| (c0_leakBit_v f (c0_faultsOfPack_j59_0 f))))]) (st' := []) (m' := (c0_leakBit_m f (c0_faultsOfPack_j59_0 f), l)) rfl rfl (fl_bo rfl) rfl ?_
  refine fl_Tq.stp (pc' := 73) (lv' := [some (.inr (.inr (.inl (1, 1)))), some (.inr (.inr (.inl (4, 4)))), some (.inl (c0_faultsOfPack_j13_0 f)), some (.inl ((c0_faultsOfPack_j36_0 f) ||| (c0_leakBit_v f (c0_faultsOfPack_j59_0 f))))]) (st' := [.inl ((c0_faultsOfPack_j36_0 f) ||| (c0_leakBit_v f (c0_faultsOfPack_j59_0 f)))]) (m' := (c0_leakBit_m f (c0_faultsOfPack_j59_0 f), l)) rfl rfl (fl_bo rfl) rfl ?_
  refine fl_Tq.stp (pc' := 74) (lv' := [some (.inr (.inr (.inl (1, 1)))), some (.inr (.inr (.inl (4, 4)))), some (.inl (c0_faultsOfPack_j13_0 f)), some (.inl ((c0_faultsOfPack_j36_0 f) ||| (c0_leakBit_v f (c0_faultsOfPack_j59_0 f))))]) (st' := [.inr (.inr (.inl (1, 1))), .inl ((c0_faultsOfPack_j36_0 f) ||| (c0_leakBit_v f (c0_faultsOfPack_j59_0 f)))]) (m' := (c0_leakBit_m f (c0_faultsOfPack_j59_0 f), l)) rfl rfl (fl_bo rfl) rfl ?_
  refine fl_Tq.cal rfl rfl (fl_bo rfl) rfl ?_
  refine c0_partSpread_q (by simp only [c0_leakBit_fr (by decide : 1 ≠ 10)]; exact hc) ?_
  show fl_Tq _ 69 77 [some (.inr (.inr (.inl (1, 1)))), some (.inr (.inr (.inl (4, 4)))), some (.inl (c0_faultsOfPack_j13_0 f)), some (.inl ((c0_faultsOfPack_j36_0 f) ||| (c0_leakBit_v f (c0_faultsOfPack_j59_0 f))))] [.inl (c0_partSpread_v (c0_leakBit_m f (c0_faultsOfPack_j59_0 f))), .inl ((c0_faultsOfPack_j36_0 f) ||| (c0_leakBit_v f (c0_faultsOfPack_j59_0 f)))] (c0_leakBit_m f (c0_faultsOfPack_j59_0 f), l) _
  refine fl_Tq.stp (pc' := 78) (lv' := [some (.inr (.inr (.inl (1, 1)))), some (.inr (.inr (.inl (4, 4)))), some (.inl (c0_faultsOfPack_j13_0 f)), some (.inl ((c0_faultsOfPack_j36_0 f) ||| (c0_leakBit_v f (c0_faultsOfPack_j59_0 f))))]) (st' := [.inr (.inr (.inl (4, 4))), .inl (c0_partSpread_v (c0_leakBit_m f (c0_faultsOfPack_j59_0 f))), .inl ((c0_faultsOfPack_j36_0 f) ||| (c0_leakBit_v f (c0_faultsOfPack_j59_0 f)))]) (m' := (c0_leakBit_m f (c0_faultsOfPack_j59_0 f), l)) rfl rfl (fl_bo rfl) rfl ?_
  refine fl_Tq.cB (c := (17 : Int32)) rfl (by decide +kernel) (fl_bo rfl) ?_
  refine fl_Tq.ldV (p := 4) (τ := 4) (n := 30) (z := (0, 0, 0)) (k := 17) (v := f 4 17) rfl (fl_bo rfl) rfl (by decide +kernel) (by decide) (by simp only [c0_leakBit_fr (by decide : 4 ≠ 10)]) ?_
  have hj113 : fl_Tq (pw_P L xs) 69 91 [some (.inr (.inr (.inl (1, 1)))), some (.inr (.inr (.inl (4, 4)))), some (.inl (c0_faultsOfPack_j13_0 f)), some (.inl ((c0_faultsOfPack_j36_0 f) ||| (c0_leakBit_v f (c0_faultsOfPack_j59_0 f))))] [.inl (c0_faultsOfPack_j81_0 f), .inl ((c0_faultsOfPack_j36_0 f) ||| (c0_leakBit_v f (c0_faultsOfPack_j59_0 f)))] (c0_leakBit_m f (c0_faultsOfPack_j59_0 f), l) Q → fl_Tq (pw_P L xs) 69 81 [some (.inr (.inr (.inl (1, 1)))), some (.inr (.inr (.inl (4, 4)))), some (.inl (c0_faultsOfPack_j13_0 f)), some (.inl ((c0_faultsOfPack_j36_0 f) ||| (c0_leakBit_v f (c0_faultsOfPack_j59_0 f))))] [.inl (f 4 17), .inl (c0_partSpread_v (c0_leakBit_m f (c0_faultsOfPack_j59_0 f))), .inl ((c0_faultsOfPack_j36_0 f) ||| (c0_leakBit_v f (c0_faultsOfPack_j59_0 f)))] (c0_leakBit_m f (c0_faultsOfPack_j59_0 f), l) Q := by
    intro hJ
    by_cases h5 : (f 4 17).toInt < (c0_partSpread_v (c0_leakBit_m f (c0_faultsOfPack_j59_0 f))).toInt
    · refine fl_Tq.jf rfl (fl_bo rfl) (c2_le_f h5) rfl ?_
      refine fl_Tq.cS (c := (128 : Int32)) rfl (by decide +kernel) (fl_bo rfl) ?_
      refine fl_Tq.stp (pc' := 91) (lv' := [some (.inr (.inr (.inl (1, 1)))), some (.inr (.inr (.inl (4, 4)))), some (.inl (c0_faultsOfPack_j13_0 f)), some (.inl ((c0_faultsOfPack_j36_0 f) ||| (c0_leakBit_v f (c0_faultsOfPack_j59_0 f))))]) (st' := [.inl (128 : Int32), .inl ((c0_faultsOfPack_j36_0 f) ||| (c0_leakBit_v f (c0_faultsOfPack_j59_0 f)))]) (m' := (c0_leakBit_m f (c0_faultsOfPack_j59_0 f), l)) rfl rfl (fl_bo rfl) rfl ?_
      have e0 : (c0_faultsOfPack_j81_0 f) = (128 : Int32) := by simp only [c0_faultsOfPack_j81_0, if_pos h5]
      rw [e0] at hJ
      exact hJ
    · refine fl_Tq.jt rfl (fl_bo rfl) (c2_le_t h5) rfl ?_
      refine fl_Tq.cI (c := (0 : Int32)) rfl (by decide +kernel) (fl_bo rfl) ?_
      have e0 : (c0_faultsOfPack_j81_0 f) = (0 : Int32) := by simp only [c0_faultsOfPack_j81_0, if_neg h5]
      rw [e0] at hJ
      exact hJ
  refine hj113 ?_
  show fl_Tq _ 69 91 [some (.inr (.inr (.inl (1, 1)))), some (.inr (.inr (.inl (4, 4)))), some (.inl (c0_faultsOfPack_j13_0 f)), some (.inl ((c0_faultsOfPack_j36_0 f) ||| (c0_leakBit_v f (c0_faultsOfPack_j59_0 f))))] [.inl (c0_faultsOfPack_j81_0 f), .inl ((c0_faultsOfPack_j36_0 f) ||| (c0_leakBit_v f (c0_faultsOfPack_j59_0 f)))] (c0_leakBit_m f (c0_faultsOfPack_j59_0 f), l) _
  refine fl_Tq.stp (pc' := 92) (lv' := [some (.inr (.inr (.inl (1, 1)))), some (.inr (.inr (.inl (4, 4)))), some (.inl (c0_faultsOfPack_j13_0 f)), some (.inl ((c0_faultsOfPack_j36_0 f) ||| (c0_leakBit_v f (c0_faultsOfPack_j59_0 f))))]) (st' := [.inl (((c0_faultsOfPack_j36_0 f) ||| (c0_leakBit_v f (c0_faultsOfPack_j59_0 f))) ||| (c0_faultsOfPack_j81_0 f))]) (m' := (c0_leakBit_m f (c0_faultsOfPack_j59_0 f), l)) rfl rfl (fl_bo rfl) rfl ?_
  refine fl_Tq.stp (pc' := 93) (lv' := [some (.inr (.inr (.inl (1, 1)))), some (.inr (.inr (.inl (4, 4)))), some (.inl (c0_faultsOfPack_j13_0 f)), some (.inl (((c0_faultsOfPack_j36_0 f) ||| (c0_leakBit_v f (c0_faultsOfPack_j59_0 f))) ||| (c0_faultsOfPack_j81_0 f)))]) (st' := []) (m' := (c0_leakBit_m f (c0_faultsOfPack_j59_0 f), l)) rfl rfl (fl_bo rfl) rfl ?_
  refine fl_Tq.stp (pc' := 94) (lv' := [some (.inr (.inr (.inl (1, 1)))), some (.inr (.inr (.inl (4, 4)))), some (.inl (c0_faultsOfPack_j13_0 f)), some (.inl (((c0_faultsOfPack_j36_0 f) ||| (c0_leakBit_v f (c0_faultsOfPack_j59_0 f))) ||| (c0_faultsOfPack_j81_0 f)))]) (st' := [.inl (((c0_faultsOfPack_j36_0 f) ||| (c0_leakBit_v f (c0_faultsOfPack_j59_0 f))) ||| (c0_faultsOfPack_j81_0 f))]) (m' := (c0_leakBit_m f (c0_faultsOfPack_j59_0 f), l)) rfl rfl (fl_bo rfl) rfl ?_
  refine fl_Tq.stp (pc' := 95) (lv' := [some (.inr (.inr (.inl (1, 1)))), some (.inr (.inr (.inl (4, 4)))), some (.inl (c0_faultsOfPack_j13_0 f)), some (.inl (((c0_faultsOfPack_j36_0 f) ||| (c0_leakBit_v f (c0_faultsOfPack_j59_0 f))) ||| (c0_faultsOfPack_j81_0 f)))]) (st' := [.inr (.inr (.inl (1, 1))), .inl (((c0_faultsOfPack_j36_0 f) ||| (c0_leakBit_v f (c0_faultsOfPack_j59_0 f))) ||| (c0_faultsOfPack_j81_0 f))]) (m' := (c0_leakBit_m f (c0_faultsOfPack_j59_0 f), l)) rfl rfl (fl_bo rfl) rfl ?_
  refine fl_Tq.stp (pc' := 98) (lv' := [some (.inr (.inr (.inl (1, 1)))), some (.inr (.inr (.inl (4, 4)))), some (.inl (c0_faultsOfPack_j13_0 f)), some (.inl (((c0_faultsOfPack_j36_0 f) ||| (c0_leakBit_v f (c0_faultsOfPack_j59_0 f))) ||| (c0_faultsOfPack_j81_0 f)))]) (st' := [.inr (.inr (.inl (10, 10))), .inl (((c0_faultsOfPack_j36_0 f) ||| (c0_leakBit_v f (c0_faultsOfPack_j59_0 f))) ||| (c0_faultsOfPack_j81_0 f))]) (m' := (c0_leakBit_m f (c0_faultsOfPack_j59_0 f), l)) rfl rfl (fl_bo rfl) rfl ?_
  refine fl_Tq.stp (pc' := 99) (lv' := [some (.inr (.inr (.inl (1, 1)))), some (.inr (.inr (.inl (4, 4)))), some (.inl (c0_faultsOfPack_j13_0 f)), some (.inl (((c0_faultsOfPack_j36_0 f) ||| (c0_leakBit_v f (c0_faultsOfPack_j59_0 f))) ||| (c0_faultsOfPack_j81_0 f)))]) (st' := [.inr (.inr (.inl (1, 1))), .inr (.inr (.inl (10, 10))), .inl (((c0_faultsOfPack_j36_0 f) ||| (c0_leakBit_v f (c0_faultsOfPack_j59_0 f))) ||| (c0_faultsOfPack_j81_0 f))]) (m' := (c0_leakBit_m f (c0_faultsOfPack_j59_0 f), l)) rfl rfl (fl_bo rfl) rfl ?_
  refine fl_Tq.cal rfl rfl (fl_bo rfl) rfl ?_
  refine c0_actualBits_q  ?_
  show fl_Tq _ 69 102 [some (.inr (.inr (.inl (1, 1)))), some (.inr (.inr (.inl (4, 4)))), some (.inl (c0_faultsOfPack_j13_0 f)), some (.inl (((c0_faultsOfPack_j36_0 f) ||| (c0_leakBit_v f (c0_faultsOfPack_j59_0 f))) ||| (c0_faultsOfPack_j81_0 f)))] [.inl (c0_actualBits_v (c0_leakBit_m f (c0_faultsOfPack_j59_0 f))), .inr (.inr (.inl (10, 10))), .inl (((c0_faultsOfPack_j36_0 f) ||| (c0_leakBit_v f (c0_faultsOfPack_j59_0 f))) ||| (c0_faultsOfPack_j81_0 f))] (c0_leakBit_m f (c0_faultsOfPack_j59_0 f), l) _
  refine fl_Tq.stp (pc' := 103) (lv' := [some (.inr (.inr (.inl (1, 1)))), some (.inr (.inr (.inl (4, 4)))), some (.inl (c0_faultsOfPack_j13_0 f)), some (.inl (((c0_faultsOfPack_j36_0 f) ||| (c0_leakBit_v f (c0_faultsOfPack_j59_0 f))) ||| (c0_faultsOfPack_j81_0 f)))]) (st' := [.inr (.inr (.inl (1, 1))), .inl (c0_actualBits_v (c0_leakBit_m f (c0_faultsOfPack_j59_0 f))), .inr (.inr (.inl (10, 10))), .inl (((c0_faultsOfPack_j36_0 f) ||| (c0_leakBit_v f (c0_faultsOfPack_j59_0 f))) ||| (c0_faultsOfPack_j81_0 f))]) (m' := (c0_leakBit_m f (c0_faultsOfPack_j59_0 f), l)) rfl rfl (fl_bo rfl) rfl ?_
  refine fl_Tq.cal rfl rfl (fl_bo rfl) rfl ?_
  refine c0_orderedBits_q  ?_
  show fl_Tq _ 69 106 [some (.inr (.inr (.inl (1, 1)))), some (.inr (.inr (.inl (4, 4)))), some (.inl (c0_faultsOfPack_j13_0 f)), some (.inl (((c0_faultsOfPack_j36_0 f) ||| (c0_leakBit_v f (c0_faultsOfPack_j59_0 f))) ||| (c0_faultsOfPack_j81_0 f)))] [.inl (c0_orderedBits_v (c0_leakBit_m f (c0_faultsOfPack_j59_0 f))), .inl (c0_actualBits_v (c0_leakBit_m f (c0_faultsOfPack_j59_0 f))), .inr (.inr (.inl (10, 10))), .inl (((c0_faultsOfPack_j36_0 f) ||| (c0_leakBit_v f (c0_faultsOfPack_j59_0 f))) ||| (c0_faultsOfPack_j81_0 f))] (c0_leakBit_m f (c0_faultsOfPack_j59_0 f), l) _
  by_cases h6 : (c0_actualBits_v (c0_leakBit_m f (c0_faultsOfPack_j59_0 f))).toInt = (c0_orderedBits_v (c0_leakBit_m f (c0_faultsOfPack_j59_0 f))).toInt
  · refine fl_Tq.jt rfl (fl_bo rfl) (c2_eq_t h6) rfl ?_
    refine fl_Tq.cI (c := (0 : Int32)) rfl (by decide +kernel) (fl_bo rfl) ?_
    refine fl_Tq.cal rfl rfl (fl_bo rfl) rfl ?_
    refine c0_weldBit0_q  ?_
    show fl_Tq _ 69 117 [some (.inr (.inr (.inl (1, 1)))), some (.inr (.inr (.inl (4, 4)))), some (.inl (c0_faultsOfPack_j13_0 f)), some (.inl (((c0_faultsOfPack_j36_0 f) ||| (c0_leakBit_v f (c0_faultsOfPack_j59_0 f))) ||| (c0_faultsOfPack_j81_0 f)))] [.inl c0_weldBit0_v, .inl (((c0_faultsOfPack_j36_0 f) ||| (c0_leakBit_v f (c0_faultsOfPack_j59_0 f))) ||| (c0_faultsOfPack_j81_0 f))] (c0_weldBit0_m (c0_leakBit_m f (c0_faultsOfPack_j59_0 f)), l) _
    refine fl_Tq.stp (pc' := 118) (lv' := [some (.inr (.inr (.inl (1, 1)))), some (.inr (.inr (.inl (4, 4)))), some (.inl (c0_faultsOfPack_j13_0 f)), some (.inl (((c0_faultsOfPack_j36_0 f) ||| (c0_leakBit_v f (c0_faultsOfPack_j59_0 f))) ||| (c0_faultsOfPack_j81_0 f)))]) (st' := [.inl ((((c0_faultsOfPack_j36_0 f) ||| (c0_leakBit_v f (c0_faultsOfPack_j59_0 f))) ||| (c0_faultsOfPack_j81_0 f)) ||| c0_weldBit0_v)]) (m' := (c0_weldBit0_m (c0_leakBit_m f (c0_faultsOfPack_j59_0 f)), l)) rfl rfl (fl_bo rfl) rfl ?_
    refine fl_Tq.stp (pc' := 119) (lv' := [some (.inr (.inr (.inl (1, 1)))), some (.inr (.inr (.inl (4, 4)))), some (.inl (c0_faultsOfPack_j13_0 f)), some (.inl ((((c0_faultsOfPack_j36_0 f) ||| (c0_leakBit_v f (c0_faultsOfPack_j59_0 f))) ||| (c0_faultsOfPack_j81_0 f)) ||| c0_weldBit0_v))]) (st' := []) (m' := (c0_weldBit0_m (c0_leakBit_m f (c0_faultsOfPack_j59_0 f)), l)) rfl rfl (fl_bo rfl) rfl ?_
    refine fl_Tq.stp (pc' := 120) (lv' := [some (.inr (.inr (.inl (1, 1)))), some (.inr (.inr (.inl (4, 4)))), some (.inl (c0_faultsOfPack_j13_0 f)), some (.inl ((((c0_faultsOfPack_j36_0 f) ||| (c0_leakBit_v f (c0_faultsOfPack_j59_0 f))) ||| (c0_faultsOfPack_j81_0 f)) ||| c0_weldBit0_v))]) (st' := [.inl ((((c0_faultsOfPack_j36_0 f) ||| (c0_leakBit_v f (c0_faultsOfPack_j59_0 f))) ||| (c0_faultsOfPack_j81_0 f)) ||| c0_weldBit0_v)]) (m' := (c0_weldBit0_m (c0_leakBit_m f (c0_faultsOfPack_j59_0 f)), l)) rfl rfl (fl_bo rfl) rfl ?_
    refine fl_Tq.stp (pc' := 121) (lv' := [some (.inr (.inr (.inl (1, 1)))), some (.inr (.inr (.inl (4, 4)))), some (.inl (c0_faultsOfPack_j13_0 f)), some (.inl ((((c0_faultsOfPack_j36_0 f) ||| (c0_leakBit_v f (c0_faultsOfPack_j59_0 f))) ||| (c0_faultsOfPack_j81_0 f)) ||| c0_weldBit0_v))]) (st' := [.inr (.inr (.inl (1, 1))), .inl ((((c0_faultsOfPack_j36_0 f) ||| (c0_leakBit_v f (c0_faultsOfPack_j59_0 f))) ||| (c0_faultsOfPack_j81_0 f)) ||| c0_weldBit0_v)]) (m' := (c0_weldBit0_m (c0_leakBit_m f (c0_faultsOfPack_j59_0 f)), l)) rfl rfl (fl_bo rfl) rfl ?_
    refine fl_Tq.stp (pc' := 124) (lv' := [some (.inr (.inr (.inl (1, 1)))), some (.inr (.inr (.inl (4, 4)))), some (.inl (c0_faultsOfPack_j13_0 f)), some (.inl ((((c0_faultsOfPack_j36_0 f) ||| (c0_leakBit_v f (c0_faultsOfPack_j59_0 f))) ||| (c0_faultsOfPack_j81_0 f)) ||| c0_weldBit0_v))]) (st' := [.inr (.inr (.inl (10, 10))), .inl ((((c0_faultsOfPack_j36_0 f) ||| (c0_leakBit_v f (c0_faultsOfPack_j59_0 f))) ||| (c0_faultsOfPack_j81_0 f)) ||| c0_weldBit0_v)]) (m' := (c0_weldBit0_m (c0_leakBit_m f (c0_faultsOfPack_j59_0 f)), l)) rfl rfl (fl_bo rfl) rfl ?_
    refine fl_Tq.stp (pc' := 125) (lv' := [some (.inr (.inr (.inl (1, 1)))), some (.inr (.inr (.inl (4, 4)))), some (.inl (c0_faultsOfPack_j13_0 f)), some (.inl ((((c0_faultsOfPack_j36_0 f) ||| (c0_leakBit_v f (c0_faultsOfPack_j59_0 f))) ||| (c0_faultsOfPack_j81_0 f)) ||| c0_weldBit0_v))]) (st' := [.inr (.inr (.inl (4, 4))), .inr (.inr (.inl (10, 10))), .inl ((((c0_faultsOfPack_j36_0 f) ||| (c0_leakBit_v f (c0_faultsOfPack_j59_0 f))) ||| (c0_faultsOfPack_j81_0 f)) ||| c0_weldBit0_v)]) (m' := (c0_weldBit0_m (c0_leakBit_m f (c0_faultsOfPack_j59_0 f)), l)) rfl rfl (fl_bo rfl) rfl ?_
    refine fl_Tq.cB (c := (28 : Int32)) rfl (by decide +kernel) (fl_bo rfl) ?_
    refine fl_Tq.ldV (p := 4) (τ := 4) (n := 30) (z := (0, 0, 0)) (k := 28) (v := f 4 28) rfl (fl_bo rfl) rfl (by decide +kernel) (by decide) (by simp only [c0_weldBit0_fr (by decide : 4 ≠ 10), c0_leakBit_fr (by decide : 4 ≠ 10)]) ?_
    refine fl_Tq.cal rfl rfl (fl_bo rfl) rfl ?_
    refine c0_silentBit_q  ?_
    show fl_Tq _ 69 131 [some (.inr (.inr (.inl (1, 1)))), some (.inr (.inr (.inl (4, 4)))), some (.inl (c0_faultsOfPack_j13_0 f)), some (.inl ((((c0_faultsOfPack_j36_0 f) ||| (c0_leakBit_v f (c0_faultsOfPack_j59_0 f))) ||| (c0_faultsOfPack_j81_0 f)) ||| c0_weldBit0_v))] [.inl (c0_silentBit_v (c0_weldBit0_m (c0_leakBit_m f (c0_faultsOfPack_j59_0 f))) (f 4 28)), .inl ((((c0_faultsOfPack_j36_0 f) ||| (c0_leakBit_v f (c0_faultsOfPack_j59_0 f))) ||| (c0_faultsOfPack_j81_0 f)) ||| c0_weldBit0_v)] (c0_silentBit_m (c0_weldBit0_m (c0_leakBit_m f (c0_faultsOfPack_j59_0 f))) (f 4 28), l) _
    refine fl_Tq.stp (pc' := 132) (lv' := [some (.inr (.inr (.inl (1, 1)))), some (.inr (.inr (.inl (4, 4)))), some (.inl (c0_faultsOfPack_j13_0 f)), some (.inl ((((c0_faultsOfPack_j36_0 f) ||| (c0_leakBit_v f (c0_faultsOfPack_j59_0 f))) ||| (c0_faultsOfPack_j81_0 f)) ||| c0_weldBit0_v))]) (st' := [.inl (((((c0_faultsOfPack_j36_0 f) ||| (c0_leakBit_v f (c0_faultsOfPack_j59_0 f))) ||| (c0_faultsOfPack_j81_0 f)) ||| c0_weldBit0_v) ||| (c0_silentBit_v (c0_weldBit0_m (c0_leakBit_m f (c0_faultsOfPack_j59_0 f))) (f 4 28)))]) (m' := (c0_silentBit_m (c0_weldBit0_m (c0_leakBit_m f (c0_faultsOfPack_j59_0 f))) (f 4 28), l)) rfl rfl (fl_bo rfl) rfl ?_
    refine fl_Tq.stp (pc' := 133) (lv' := [some (.inr (.inr (.inl (1, 1)))), some (.inr (.inr (.inl (4, 4)))), some (.inl (c0_faultsOfPack_j13_0 f)), some (.inl (((((c0_faultsOfPack_j36_0 f) ||| (c0_leakBit_v f (c0_faultsOfPack_j59_0 f))) ||| (c0_faultsOfPack_j81_0 f)) ||| c0_weldBit0_v) ||| (c0_silentBit_v (c0_weldBit0_m (c0_leakBit_m f (c0_faultsOfPack_j59_0 f))) (f 4 28))))]) (st' := []) (m' := (c0_silentBit_m (c0_weldBit0_m (c0_leakBit_m f (c0_faultsOfPack_j59_0 f))) (f 4 28), l)) rfl rfl (fl_bo rfl) rfl ?_
    refine fl_Tq.stp (pc' := 134) (lv' := [some (.inr (.inr (.inl (1, 1)))), some (.inr (.inr (.inl (4, 4)))), some (.inl (c0_faultsOfPack_j13_0 f)), some (.inl (((((c0_faultsOfPack_j36_0 f) ||| (c0_leakBit_v f (c0_faultsOfPack_j59_0 f))) ||| (c0_faultsOfPack_j81_0 f)) ||| c0_weldBit0_v) ||| (c0_silentBit_v (c0_weldBit0_m (c0_leakBit_m f (c0_faultsOfPack_j59_0 f))) (f 4 28))))]) (st' := [.inl (((((c0_faultsOfPack_j36_0 f) ||| (c0_leakBit_v f (c0_faultsOfPack_j59_0 f))) ||| (c0_faultsOfPack_j81_0 f)) ||| c0_weldBit0_v) ||| (c0_silentBit_v (c0_weldBit0_m (c0_leakBit_m f (c0_faultsOfPack_j59_0 f))) (f 4 28)))]) (m' := (c0_silentBit_m (c0_weldBit0_m (c0_leakBit_m f (c0_faultsOfPack_j59_0 f))) (f 4 28), l)) rfl rfl (fl_bo rfl) rfl ?_
    refine fl_Tq.stp (pc' := 135) (lv' := [some (.inr (.inr (.inl (1, 1)))), some (.inr (.inr (.inl (4, 4)))), some (.inl (c0_faultsOfPack_j13_0 f)), some (.inl (((((c0_faultsOfPack_j36_0 f) ||| (c0_leakBit_v f (c0_faultsOfPack_j59_0 f))) ||| (c0_faultsOfPack_j81_0 f)) ||| c0_weldBit0_v) ||| (c0_silentBit_v (c0_weldBit0_m (c0_leakBit_m f (c0_faultsOfPack_j59_0 f))) (f 4 28))))]) (st' := [.inr (.inr (.inl (4, 4))), .inl (((((c0_faultsOfPack_j36_0 f) ||| (c0_leakBit_v f (c0_faultsOfPack_j59_0 f))) ||| (c0_faultsOfPack_j81_0 f)) ||| c0_weldBit0_v) ||| (c0_silentBit_v (c0_weldBit0_m (c0_leakBit_m f (c0_faultsOfPack_j59_0 f))) (f 4 28)))]) (m' := (c0_silentBit_m (c0_weldBit0_m (c0_leakBit_m f (c0_faultsOfPack_j59_0 f))) (f 4 28), l)) rfl rfl (fl_bo rfl) rfl ?_
    refine fl_Tq.cB (c := (29 : Int32)) rfl (by decide +kernel) (fl_bo rfl) ?_
    refine fl_Tq.ldV (p := 4) (τ := 4) (n := 30) (z := (0, 0, 0)) (k := 29) (v := f 4 29) rfl (fl_bo rfl) rfl (by decide +kernel) (by decide) (by simp only [c0_silentBit_fr (by decide : 4 ≠ 10), c0_weldBit0_fr (by decide : 4 ≠ 10), c0_leakBit_fr (by decide : 4 ≠ 10)]) ?_
    have hj114 : fl_Tq (pw_P L xs) 69 148 [some (.inr (.inr (.inl (1, 1)))), some (.inr (.inr (.inl (4, 4)))), some (.inl (c0_faultsOfPack_j13_0 f)), some (.inl (((((c0_faultsOfPack_j36_0 f) ||| (c0_leakBit_v f (c0_faultsOfPack_j59_0 f))) ||| (c0_faultsOfPack_j81_0 f)) ||| c0_weldBit0_v) ||| (c0_silentBit_v (c0_weldBit0_m (c0_leakBit_m f (c0_faultsOfPack_j59_0 f))) (f 4 28))))] [.inl (c0_faultsOfPack_j138_0 f), .inl (((((c0_faultsOfPack_j36_0 f) ||| (c0_leakBit_v f (c0_faultsOfPack_j59_0 f))) ||| (c0_faultsOfPack_j81_0 f)) ||| c0_weldBit0_v) ||| (c0_silentBit_v (c0_weldBit0_m (c0_leakBit_m f (c0_faultsOfPack_j59_0 f))) (f 4 28)))] (c0_silentBit_m (c0_weldBit0_m (c0_leakBit_m f (c0_faultsOfPack_j59_0 f))) (f 4 28), l) Q → fl_Tq (pw_P L xs) 69 138 [some (.inr (.inr (.inl (1, 1)))), some (.inr (.inr (.inl (4, 4)))), some (.inl (c0_faultsOfPack_j13_0 f)), some (.inl (((((c0_faultsOfPack_j36_0 f) ||| (c0_leakBit_v f (c0_faultsOfPack_j59_0 f))) ||| (c0_faultsOfPack_j81_0 f)) ||| c0_weldBit0_v) ||| (c0_silentBit_v (c0_weldBit0_m (c0_leakBit_m f (c0_faultsOfPack_j59_0 f))) (f 4 28))))] [.inl (f 4 29), .inl (((((c0_faultsOfPack_j36_0 f) ||| (c0_leakBit_v f (c0_faultsOfPack_j59_0 f))) ||| (c0_faultsOfPack_j81_0 f)) ||| c0_weldBit0_v) ||| (c0_silentBit_v (c0_weldBit0_m (c0_leakBit_m f (c0_faultsOfPack_j59_0 f))) (f 4 28)))] (c0_silentBit_m (c0_weldBit0_m (c0_leakBit_m f (c0_faultsOfPack_j59_0 f))) (f 4 28), l) Q := by
      intro hJ
      by_cases h7 : (f 4 29).toInt = 0
      · refine fl_Tq.zf rfl (fl_bo rfl) (c1_ne_f h7) rfl ?_
        refine fl_Tq.cS (c := (1024 : Int32)) rfl (by decide +kernel) (fl_bo rfl) ?_
        refine fl_Tq.stp (pc' := 148) (lv' := [some (.inr (.inr (.inl (1, 1)))), some (.inr (.inr (.inl (4, 4)))), some (.inl (c0_faultsOfPack_j13_0 f)), some (.inl (((((c0_faultsOfPack_j36_0 f) ||| (c0_leakBit_v f (c0_faultsOfPack_j59_0 f))) ||| (c0_faultsOfPack_j81_0 f)) ||| c0_weldBit0_v) ||| (c0_silentBit_v (c0_weldBit0_m (c0_leakBit_m f (c0_faultsOfPack_j59_0 f))) (f 4 28))))]) (st' := [.inl (1024 : Int32), .inl (((((c0_faultsOfPack_j36_0 f) ||| (c0_leakBit_v f (c0_faultsOfPack_j59_0 f))) ||| (c0_faultsOfPack_j81_0 f)) ||| c0_weldBit0_v) ||| (c0_silentBit_v (c0_weldBit0_m (c0_leakBit_m f (c0_faultsOfPack_j59_0 f))) (f 4 28)))]) (m' := (c0_silentBit_m (c0_weldBit0_m (c0_leakBit_m f (c0_faultsOfPack_j59_0 f))) (f 4 28), l)) rfl rfl (fl_bo rfl) rfl ?_
        have e0 : (c0_faultsOfPack_j138_0 f) = (1024 : Int32) := by simp only [c0_faultsOfPack_j138_0, if_pos h7]
        rw [e0] at hJ
        exact hJ
      · refine fl_Tq.zt rfl (fl_bo rfl) (c1_ne_t h7) rfl ?_
        refine fl_Tq.cI (c := (0 : Int32)) rfl (by decide +kernel) (fl_bo rfl) ?_
        have e0 : (c0_faultsOfPack_j138_0 f) = (0 : Int32) := by simp only [c0_faultsOfPack_j138_0, if_neg h7]
        rw [e0] at hJ
        exact hJ
    refine hj114 ?_
    show fl_Tq _ 69 148 [some (.inr (.inr (.inl (1, 1)))), some (.inr (.inr (.inl (4, 4)))), some (.inl (c0_faultsOfPack_j13_0 f)), some (.inl (((((c0_faultsOfPack_j36_0 f) ||| (c0_leakBit_v f (c0_faultsOfPack_j59_0 f))) ||| (c0_faultsOfPack_j81_0 f)) ||| c0_weldBit0_v) ||| (c0_silentBit_v (c0_weldBit0_m (c0_leakBit_m f (c0_faultsOfPack_j59_0 f))) (f 4 28))))] [.inl (c0_faultsOfPack_j138_0 f), .inl (((((c0_faultsOfPack_j36_0 f) ||| (c0_leakBit_v f (c0_faultsOfPack_j59_0 f))) ||| (c0_faultsOfPack_j81_0 f)) ||| c0_weldBit0_v) ||| (c0_silentBit_v (c0_weldBit0_m (c0_leakBit_m f (c0_faultsOfPack_j59_0 f))) (f 4 28)))] (c0_silentBit_m (c0_weldBit0_m (c0_leakBit_m f (c0_faultsOfPack_j59_0 f))) (f 4 28), l) _
    refine fl_Tq.stp (pc' := 149) (lv' := [some (.inr (.inr (.inl (1, 1)))), some (.inr (.inr (.inl (4, 4)))), some (.inl (c0_faultsOfPack_j13_0 f)), some (.inl (((((c0_faultsOfPack_j36_0 f) ||| (c0_leakBit_v f (c0_faultsOfPack_j59_0 f))) ||| (c0_faultsOfPack_j81_0 f)) ||| c0_weldBit0_v) ||| (c0_silentBit_v (c0_weldBit0_m (c0_leakBit_m f (c0_faultsOfPack_j59_0 f))) (f 4 28))))]) (st' := [.inl ((((((c0_faultsOfPack_j36_0 f) ||| (c0_leakBit_v f (c0_faultsOfPack_j59_0 f))) ||| (c0_faultsOfPack_j81_0 f)) ||| c0_weldBit0_v) ||| (c0_silentBit_v (c0_weldBit0_m (c0_leakBit_m f (c0_faultsOfPack_j59_0 f))) (f 4 28))) ||| (c0_faultsOfPack_j138_0 f))]) (m' := (c0_silentBit_m (c0_weldBit0_m (c0_leakBit_m f (c0_faultsOfPack_j59_0 f))) (f 4 28), l)) rfl rfl (fl_bo rfl) rfl ?_
    refine fl_Tq.stp (pc' := 150) (lv' := [some (.inr (.inr (.inl (1, 1)))), some (.inr (.inr (.inl (4, 4)))), some (.inl (c0_faultsOfPack_j13_0 f)), some (.inl ((((((c0_faultsOfPack_j36_0 f) ||| (c0_leakBit_v f (c0_faultsOfPack_j59_0 f))) ||| (c0_faultsOfPack_j81_0 f)) ||| c0_weldBit0_v) ||| (c0_silentBit_v (c0_weldBit0_m (c0_leakBit_m f (c0_faultsOfPack_j59_0 f))) (f 4 28))) ||| (c0_faultsOfPack_j138_0 f)))]) (st' := []) (m' := (c0_silentBit_m (c0_weldBit0_m (c0_leakBit_m f (c0_faultsOfPack_j59_0 f))) (f 4 28), l)) rfl rfl (fl_bo rfl) rfl ?_
    refine fl_Tq.stp (pc' := 151) (lv' := [some (.inr (.inr (.inl (1, 1)))), some (.inr (.inr (.inl (4, 4)))), some (.inl (c0_faultsOfPack_j13_0 f)), some (.inl ((((((c0_faultsOfPack_j36_0 f) ||| (c0_leakBit_v f (c0_faultsOfPack_j59_0 f))) ||| (c0_faultsOfPack_j81_0 f)) ||| c0_weldBit0_v) ||| (c0_silentBit_v (c0_weldBit0_m (c0_leakBit_m f (c0_faultsOfPack_j59_0 f))) (f 4 28))) ||| (c0_faultsOfPack_j138_0 f)))]) (st' := [.inl ((((((c0_faultsOfPack_j36_0 f) ||| (c0_leakBit_v f (c0_faultsOfPack_j59_0 f))) ||| (c0_faultsOfPack_j81_0 f)) ||| c0_weldBit0_v) ||| (c0_silentBit_v (c0_weldBit0_m (c0_leakBit_m f (c0_faultsOfPack_j59_0 f))) (f 4 28))) ||| (c0_faultsOfPack_j138_0 f))]) (m' := (c0_silentBit_m (c0_weldBit0_m (c0_leakBit_m f (c0_faultsOfPack_j59_0 f))) (f 4 28), l)) rfl rfl (fl_bo rfl) rfl ?_
    refine fl_Tq.ret rfl rfl rfl ?_
    unfold c0_faultsOfPack_v at k
    unfold c0_faultsOfPack_m at k
    simp only [if_pos h6] at k
    exact k
  · refine fl_Tq.jf rfl (fl_bo rfl) (c2_eq_f h6) rfl ?_
    refine fl_Tq.cI (c := (1 : Int32)) rfl (by decide +kernel) (fl_bo rfl) ?_
    refine fl_Tq.stp (pc' := 114) (lv' := [some (.inr (.inr (.inl (1, 1)))), some (.inr (.inr (.inl (4, 4)))), some (.inl (c0_faultsOfPack_j13_0 f)), some (.inl (((c0_faultsOfPack_j36_0 f) ||| (c0_leakBit_v f (c0_faultsOfPack_j59_0 f))) ||| (c0_faultsOfPack_j81_0 f)))]) (st' := [.inl (1 : Int32), .inr (.inr (.inl (10, 10))), .inl (((c0_faultsOfPack_j36_0 f) ||| (c0_leakBit_v f (c0_faultsOfPack_j59_0 f))) ||| (c0_faultsOfPack_j81_0 f))]) (m' := (c0_leakBit_m f (c0_faultsOfPack_j59_0 f), l)) rfl rfl (fl_bo rfl) rfl ?_
    refine fl_Tq.cal rfl rfl (fl_bo rfl) rfl ?_
    refine c0_weldBit1_q  ?_
    show fl_Tq _ 69 117 [some (.inr (.inr (.inl (1, 1)))), some (.inr (.inr (.inl (4, 4)))), some (.inl (c0_faultsOfPack_j13_0 f)), some (.inl (((c0_faultsOfPack_j36_0 f) ||| (c0_leakBit_v f (c0_faultsOfPack_j59_0 f))) ||| (c0_faultsOfPack_j81_0 f)))] [.inl (c0_weldBit1_v (c0_leakBit_m f (c0_faultsOfPack_j59_0 f))), .inl (((c0_faultsOfPack_j36_0 f) ||| (c0_leakBit_v f (c0_faultsOfPack_j59_0 f))) ||| (c0_faultsOfPack_j81_0 f))] (c0_weldBit1_m (c0_leakBit_m f (c0_faultsOfPack_j59_0 f)), l) _
    refine fl_Tq.stp (pc' := 118) (lv' := [some (.inr (.inr (.inl (1, 1)))), some (.inr (.inr (.inl (4, 4)))), some (.inl (c0_faultsOfPack_j13_0 f)), some (.inl (((c0_faultsOfPack_j36_0 f) ||| (c0_leakBit_v f (c0_faultsOfPack_j59_0 f))) ||| (c0_faultsOfPack_j81_0 f)))]) (st' := [.inl ((((c0_faultsOfPack_j36_0 f) ||| (c0_leakBit_v f (c0_faultsOfPack_j59_0 f))) ||| (c0_faultsOfPack_j81_0 f)) ||| (c0_weldBit1_v (c0_leakBit_m f (c0_faultsOfPack_j59_0 f))))]) (m' := (c0_weldBit1_m (c0_leakBit_m f (c0_faultsOfPack_j59_0 f)), l)) rfl rfl (fl_bo rfl) rfl ?_
    refine fl_Tq.stp (pc' := 119) (lv' := [some (.inr (.inr (.inl (1, 1)))), some (.inr (.inr (.inl (4, 4)))), some (.inl (c0_faultsOfPack_j13_0 f)), some (.inl ((((c0_faultsOfPack_j36_0 f) ||| (c0_leakBit_v f (c0_faultsOfPack_j59_0 f))) ||| (c0_faultsOfPack_j81_0 f)) ||| (c0_weldBit1_v (c0_leakBit_m f (c0_faultsOfPack_j59_0 f)))))]) (st' := []) (m' := (c0_weldBit1_m (c0_leakBit_m f (c0_faultsOfPack_j59_0 f)), l)) rfl rfl (fl_bo rfl) rfl ?_
    refine fl_Tq.stp (pc' := 120) (lv' := [some (.inr (.inr (.inl (1, 1)))), some (.inr (.inr (.inl (4, 4)))), some (.inl (c0_faultsOfPack_j13_0 f)), some (.inl ((((c0_faultsOfPack_j36_0 f) ||| (c0_leakBit_v f (c0_faultsOfPack_j59_0 f))) ||| (c0_faultsOfPack_j81_0 f)) ||| (c0_weldBit1_v (c0_leakBit_m f (c0_faultsOfPack_j59_0 f)))))]) (st' := [.inl ((((c0_faultsOfPack_j36_0 f) ||| (c0_leakBit_v f (c0_faultsOfPack_j59_0 f))) ||| (c0_faultsOfPack_j81_0 f)) ||| (c0_weldBit1_v (c0_leakBit_m f (c0_faultsOfPack_j59_0 f))))]) (m' := (c0_weldBit1_m (c0_leakBit_m f (c0_faultsOfPack_j59_0 f)), l)) rfl rfl (fl_bo rfl) rfl ?_
    refine fl_Tq.stp (pc' := 121) (lv' := [some (.inr (.inr (.inl (1, 1)))), some (.inr (.inr (.inl (4, 4)))), some (.inl (c0_faultsOfPack_j13_0 f)), some (.inl ((((c0_faultsOfPack_j36_0 f) ||| (c0_leakBit_v f (c0_faultsOfPack_j59_0 f))) ||| (c0_faultsOfPack_j81_0 f)) ||| (c0_weldBit1_v (c0_leakBit_m f (c0_faultsOfPack_j59_0 f)))))]) (st' := [.inr (.inr (.inl (1, 1))), .inl ((((c0_faultsOfPack_j36_0 f) ||| (c0_leakBit_v f (c0_faultsOfPack_j59_0 f))) ||| (c0_faultsOfPack_j81_0 f)) ||| (c0_weldBit1_v (c0_leakBit_m f (c0_faultsOfPack_j59_0 f))))]) (m' := (c0_weldBit1_m (c0_leakBit_m f (c0_faultsOfPack_j59_0 f)), l)) rfl rfl (fl_bo rfl) rfl ?_
    refine fl_Tq.stp (pc' := 124) (lv' := [some (.inr (.inr (.inl (1, 1)))), some (.inr (.inr (.inl (4, 4)))), some (.inl (c0_faultsOfPack_j13_0 f)), some (.inl ((((c0_faultsOfPack_j36_0 f) ||| (c0_leakBit_v f (c0_faultsOfPack_j59_0 f))) ||| (c0_faultsOfPack_j81_0 f)) ||| (c0_weldBit1_v (c0_leakBit_m f (c0_faultsOfPack_j59_0 f)))))]) (st' := [.inr (.inr (.inl (10, 10))), .inl ((((c0_faultsOfPack_j36_0 f) ||| (c0_leakBit_v f (c0_faultsOfPack_j59_0 f))) ||| (c0_faultsOfPack_j81_0 f)) ||| (c0_weldBit1_v (c0_leakBit_m f (c0_faultsOfPack_j59_0 f))))]) (m' := (c0_weldBit1_m (c0_leakBit_m f (c0_faultsOfPack_j59_0 f)), l)) rfl rfl (fl_bo rfl) rfl ?_
    refine fl_Tq.stp (pc' := 125) (lv' := [some (.inr (.inr (.inl (1, 1)))), some (.inr (.inr (.inl (4, 4)))), some (.inl (c0_faultsOfPack_j13_0 f)), some (.inl ((((c0_faultsOfPack_j36_0 f) ||| (c0_leakBit_v f (c0_faultsOfPack_j59_0 f))) ||| (c0_faultsOfPack_j81_0 f)) ||| (c0_weldBit1_v (c0_leakBit_m f (c0_faultsOfPack_j59_0 f)))))]) (st' := [.inr (.inr (.inl (4, 4))), .inr (.inr (.inl (10, 10))), .inl ((((c0_faultsOfPack_j36_0 f) ||| (c0_leakBit_v f (c0_faultsOfPack_j59_0 f))) ||| (c0_faultsOfPack_j81_0 f)) ||| (c0_weldBit1_v (c0_leakBit_m f (c0_faultsOfPack_j59_0 f))))]) (m' := (c0_weldBit1_m (c0_leakBit_m f (c0_faultsOfPack_j59_0 f)), l)) rfl rfl (fl_bo rfl) rfl ?_
    refine fl_Tq.cB (c := (28 : Int32)) rfl (by decide +kernel) (fl_bo rfl) ?_
    refine fl_Tq.ldV (p := 4) (τ := 4) (n := 30) (z := (0, 0, 0)) (k := 28) (v := f 4 28) rfl (fl_bo rfl) rfl (by decide +kernel) (by decide) (by simp only [c0_weldBit1_fr (by decide : 4 ≠ 10), c0_leakBit_fr (by decide : 4 ≠ 10)]) ?_
    refine fl_Tq.cal rfl rfl (fl_bo rfl) rfl ?_
    refine c0_silentBit_q  ?_
    show fl_Tq _ 69 131 [some (.inr (.inr (.inl (1, 1)))), some (.inr (.inr (.inl (4, 4)))), some (.inl (c0_faultsOfPack_j13_0 f)), some (.inl ((((c0_faultsOfPack_j36_0 f) ||| (c0_leakBit_v f (c0_faultsOfPack_j59_0 f))) ||| (c0_faultsOfPack_j81_0 f)) ||| (c0_weldBit1_v (c0_leakBit_m f (c0_faultsOfPack_j59_0 f)))))] [.inl (c0_silentBit_v (c0_weldBit1_m (c0_leakBit_m f (c0_faultsOfPack_j59_0 f))) (f 4 28)), .inl ((((c0_faultsOfPack_j36_0 f) ||| (c0_leakBit_v f (c0_faultsOfPack_j59_0 f))) ||| (c0_faultsOfPack_j81_0 f)) ||| (c0_weldBit1_v (c0_leakBit_m f (c0_faultsOfPack_j59_0 f))))] (c0_silentBit_m (c0_weldBit1_m (c0_leakBit_m f (c0_faultsOfPack_j59_0 f))) (f 4 28), l) _
    refine fl_Tq.stp (pc' := 132) (lv' := [some (.inr (.inr (.inl (1, 1)))), some (.inr (.inr (.inl (4, 4)))), some (.inl (c0_faultsOfPack_j13_0 f)), some (.inl ((((c0_faultsOfPack_j36_0 f) ||| (c0_leakBit_v f (c0_faultsOfPack_j59_0 f))) ||| (c0_faultsOfPack_j81_0 f)) ||| (c0_weldBit1_v (c0_leakBit_m f (c0_faultsOfPack_j59_0 f)))))]) (st' := [.inl (((((c0_faultsOfPack_j36_0 f) ||| (c0_leakBit_v f (c0_faultsOfPack_j59_0 f))) ||| (c0_faultsOfPack_j81_0 f)) ||| (c0_weldBit1_v (c0_leakBit_m f (c0_faultsOfPack_j59_0 f)))) ||| (c0_silentBit_v (c0_weldBit1_m (c0_leakBit_m f (c0_faultsOfPack_j59_0 f))) (f 4 28)))]) (m' := (c0_silentBit_m (c0_weldBit1_m (c0_leakBit_m f (c0_faultsOfPack_j59_0 f))) (f 4 28), l)) rfl rfl (fl_bo rfl) rfl ?_
    refine fl_Tq.stp (pc' := 133) (lv' := [some (.inr (.inr (.inl (1, 1)))), some (.inr (.inr (.inl (4, 4)))), some (.inl (c0_faultsOfPack_j13_0 f)), some (.inl (((((c0_faultsOfPack_j36_0 f) ||| (c0_leakBit_v f (c0_faultsOfPack_j59_0 f))) ||| (c0_faultsOfPack_j81_0 f)) ||| (c0_weldBit1_v (c0_leakBit_m f (c0_faultsOfPack_j59_0 f)))) ||| (c0_silentBit_v (c0_weldBit1_m (c0_leakBit_m f (c0_faultsOfPack_j59_0 f))) (f 4 28))))]) (st' := []) (m' := (c0_silentBit_m (c0_weldBit1_m (c0_leakBit_m f (c0_faultsOfPack_j59_0 f))) (f 4 28), l)) rfl rfl (fl_bo rfl) rfl ?_
    refine fl_Tq.stp (pc' := 134) (lv' := [some (.inr (.inr (.inl (1, 1)))), some (.inr (.inr (.inl (4, 4)))), some (.inl (c0_faultsOfPack_j13_0 f)), some (.inl (((((c0_faultsOfPack_j36_0 f) ||| (c0_leakBit_v f (c0_faultsOfPack_j59_0 f))) ||| (c0_faultsOfPack_j81_0 f)) ||| (c0_weldBit1_v (c0_leakBit_m f (c0_faultsOfPack_j59_0 f)))) ||| (c0_silentBit_v (c0_weldBit1_m (c0_leakBit_m f (c0_faultsOfPack_j59_0 f))) (f 4 28))))]) (st' := [.inl (((((c0_faultsOfPack_j36_0 f) ||| (c0_leakBit_v f (c0_faultsOfPack_j59_0 f))) ||| (c0_faultsOfPack_j81_0 f)) ||| (c0_weldBit1_v (c0_leakBit_m f (c0_faultsOfPack_j59_0 f)))) ||| (c0_silentBit_v (c0_weldBit1_m (c0_leakBit_m f (c0_faultsOfPack_j59_0 f))) (f 4 28)))]) (m' := (c0_silentBit_m (c0_weldBit1_m (c0_leakBit_m f (c0_faultsOfPack_j59_0 f))) (f 4 28), l)) rfl rfl (fl_bo rfl) rfl ?_
    refine fl_Tq.stp (pc' := 135) (lv' := [some (.inr (.inr (.inl (1, 1)))), some (.inr (.inr (.inl (4, 4)))), some (.inl (c0_faultsOfPack_j13_0 f)), some (.inl (((((c0_faultsOfPack_j36_0 f) ||| (c0_leakBit_v f (c0_faultsOfPack_j59_0 f))) ||| (c0_faultsOfPack_j81_0 f)) ||| (c0_weldBit1_v (c0_leakBit_m f (c0_faultsOfPack_j59_0 f)))) ||| (c0_silentBit_v (c0_weldBit1_m (c0_leakBit_m f (c0_faultsOfPack_j59_0 f))) (f 4 28))))]) (st' := [.inr (.inr (.inl (4, 4))), .inl (((((c0_faultsOfPack_j36_0 f) ||| (c0_leakBit_v f (c0_faultsOfPack_j59_0 f))) ||| (c0_faultsOfPack_j81_0 f)) ||| (c0_weldBit1_v (c0_leakBit_m f (c0_faultsOfPack_j59_0 f)))) ||| (c0_silentBit_v (c0_weldBit1_m (c0_leakBit_m f (c0_faultsOfPack_j59_0 f))) (f 4 28)))]) (m' := (c0_silentBit_m (c0_weldBit1_m (c0_leakBit_m f (c0_faultsOfPack_j59_0 f))) (f 4 28), l)) rfl rfl (fl_bo rfl) rfl ?_
    refine fl_Tq.cB (c := (29 : Int32)) rfl (by decide +kernel) (fl_bo rfl) ?_
    refine fl_Tq.ldV (p := 4) (τ := 4) (n := 30) (z := (0, 0, 0)) (k := 29) (v := f 4 29) rfl (fl_bo rfl) rfl (by decide +kernel) (by decide) (by simp only [c0_silentBit_fr (by decide : 4 ≠ 10), c0_weldBit1_fr (by decide : 4 ≠ 10), c0_leakBit_fr (by decide : 4 ≠ 10)]) ?_
    have hj115 : fl_Tq (pw_P L xs) 69 148 [some (.inr (.inr (.inl (1, 1)))), some (.inr (.inr (.inl (4, 4)))), some (.inl (c0_faultsOfPack_j13_0 f)), some (.inl (((((c0_faultsOfPack_j36_0 f) ||| (c0_leakBit_v f (c0_faultsOfPack_j59_0 f))) ||| (c0_faultsOfPack_j81_0 f)) ||| (c0_weldBit1_v (c0_leakBit_m f (c0_faultsOfPack_j59_0 f)))) ||| (c0_silentBit_v (c0_weldBit1_m (c0_leakBit_m f (c0_faultsOfPack_j59_0 f))) (f 4 28))))] [.inl (c0_faultsOfPack_j138_1 f), .inl (((((c0_faultsOfPack_j36_0 f) ||| (c0_leakBit_v f (c0_faultsOfPack_j59_0 f))) ||| (c0_faultsOfPack_j81_0 f)) ||| (c0_weldBit1_v (c0_leakBit_m f (c0_faultsOfPack_j59_0 f)))) ||| (c0_silentBit_v (c0_weldBit1_m (c0_leakBit_m f (c0_faultsOfPack_j59_0 f))) (f 4 28)))] (c0_silentBit_m (c0_weldBit1_m (c0_leakBit_m f (c0_faultsOfPack_j59_0 f))) (f 4 28), l) Q → fl_Tq (pw_P L xs) 69 138 [some (.inr (.inr (.inl (1, 1)))), some (.inr (.inr (.inl (4, 4)))), some (.inl (c0_faultsOfPack_j13_0 f)), some (.inl (((((c0_faultsOfPack_j36_0 f) ||| (c0_leakBit_v f (c0_faultsOfPack_j59_0 f))) ||| (c0_faultsOfPack_j81_0 f)) ||| (c0_weldBit1_v (c0_leakBit_m f (c0_faultsOfPack_j59_0 f)))) ||| (c0_silentBit_v (c0_weldBit1_m (c0_leakBit_m f (c0_faultsOfPack_j59_0 f))) (f 4 28))))] [.inl (f 4 29), .inl (((((c0_faultsOfPack_j36_0 f) ||| (c0_leakBit_v f (c0_faultsOfPack_j59_0 f))) ||| (c0_faultsOfPack_j81_0 f)) ||| (c0_weldBit1_v (c0_leakBit_m f (c0_faultsOfPack_j59_0 f)))) ||| (c0_silentBit_v (c0_weldBit1_m (c0_leakBit_m f (c0_faultsOfPack_j59_0 f))) (f 4 28)))] (c0_silentBit_m (c0_weldBit1_m (c0_leakBit_m f (c0_faultsOfPack_j59_0 f))) (f 4 28), l) Q := by
      intro hJ
      by_cases h8 : (f 4 29).toInt = 0
      · refine fl_Tq.zf rfl (fl_bo rfl) (c1_ne_f h8) rfl ?_
        refine fl_Tq.cS (c := (1024 : Int32)) rfl (by decide +kernel) (fl_bo rfl) ?_
        refine fl_Tq.stp (pc' := 148) (lv' := [some (.inr (.inr (.inl (1, 1)))), some (.inr (.inr (.inl (4, 4)))), some (.inl (c0_faultsOfPack_j13_0 f)), some (.inl (((((c0_faultsOfPack_j36_0 f) ||| (c0_leakBit_v f (c0_faultsOfPack_j59_0 f))) ||| (c0_faultsOfPack_j81_0 f)) ||| (c0_weldBit1_v (c0_leakBit_m f (c0_faultsOfPack_j59_0 f)))) ||| (c0_silentBit_v (c0_weldBit1_m (c0_leakBit_m f (c0_faultsOfPack_j59_0 f))) (f 4 28))))]) (st' := [.inl (1024 : Int32), .inl (((((c0_faultsOfPack_j36_0 f) ||| (c0_leakBit_v f (c0_faultsOfPack_j59_0 f))) ||| (c0_faultsOfPack_j81_0 f)) ||| (c0_weldBit1_v (c0_leakBit_m f (c0_faultsOfPack_j59_0 f)))) ||| (c0_silentBit_v (c0_weldBit1_m (c0_leakBit_m f (c0_faultsOfPack_j59_0 f))) (f 4 28)))]) (m' := (c0_silentBit_m (c0_weldBit1_m (c0_leakBit_m f (c0_faultsOfPack_j59_0 f))) (f 4 28), l)) rfl rfl (fl_bo rfl) rfl ?_
        have e0 : (c0_faultsOfPack_j138_1 f) = (1024 : Int32) := by simp only [c0_faultsOfPack_j138_1, if_pos h8]
        rw [e0] at hJ
        exact hJ
      · refine fl_Tq.zt rfl (fl_bo rfl) (c1_ne_t h8) rfl ?_
        refine fl_Tq.cI (c := (0 : Int32)) rfl (by decide +kernel) (fl_bo rfl) ?_
        have e0 : (c0_faultsOfPack_j138_1 f) = (0 : Int32) := by simp only [c0_faultsOfPack_j138_1, if_neg h8]
        rw [e0] at hJ
        exact hJ
    refine hj115 ?_
    show fl_Tq _ 69 148 [some (.inr (.inr (.inl (1, 1)))), some (.inr (.inr (.inl (4, 4)))), some (.inl (c0_faultsOfPack_j13_0 f)), some (.inl (((((c0_faultsOfPack_j36_0 f) ||| (c0_leakBit_v f (c0_faultsOfPack_j59_0 f))) ||| (c0_faultsOfPack_j81_0 f)) ||| (c0_weldBit1_v (c0_leakBit_m f (c0_faultsOfPack_j59_0 f)))) ||| (c0_silentBit_v (c0_weldBit1_m (c0_leakBit_m f (c0_faultsOfPack_j59_0 f))) (f 4 28))))] [.inl (c0_faultsOfPack_j138_1 f), .inl (((((c0_faultsOfPack_j36_0 f) ||| (c0_leakBit_v f (c0_faultsOfPack_j59_0 f))) ||| (c0_faultsOfPack_j81_0 f)) ||| (c0_weldBit1_v (c0_leakBit_m f (c0_faultsOfPack_j59_0 f)))) ||| (c0_silentBit_v (c0_weldBit1_m (c0_leakBit_m f (c0_faultsOfPack_j59_0 f))) (f 4 28)))] (c0_silentBit_m (c0_weldBit1_m (c0_leakBit_m f (c0_faultsOfPack_j59_0 f))) (f 4 28), l) _
    refine fl_Tq.stp (pc' := 149) (lv' := [some (.inr (.inr (.inl (1, 1)))), some (.inr (.inr (.inl (4, 4)))), some (.inl (c0_faultsOfPack_j13_0 f)), some (.inl (((((c0_faultsOfPack_j36_0 f) ||| (c0_leakBit_v f (c0_faultsOfPack_j59_0 f))) ||| (c0_faultsOfPack_j81_0 f)) ||| (c0_weldBit1_v (c0_leakBit_m f (c0_faultsOfPack_j59_0 f)))) ||| (c0_silentBit_v (c0_weldBit1_m (c0_leakBit_m f (c0_faultsOfPack_j59_0 f))) (f 4 28))))]) (st' := [.inl ((((((c0_faultsOfPack_j36_0 f) ||| (c0_leakBit_v f (c0_faultsOfPack_j59_0 f))) ||| (c0_faultsOfPack_j81_0 f)) ||| (c0_weldBit1_v (c0_leakBit_m f (c0_faultsOfPack_j59_0 f)))) ||| (c0_silentBit_v (c0_weldBit1_m (c0_leakBit_m f (c0_faultsOfPack_j59_0 f))) (f 4 28))) ||| (c0_faultsOfPack_j138_1 f))]) (m' := (c0_silentBit_m (c0_weldBit1_m (c0_leakBit_m f (c0_faultsOfPack_j59_0 f))) (f 4 28), l)) rfl rfl (fl_bo rfl) rfl ?_
    refine fl_Tq.stp (pc' := 150) (lv' := [some (.inr (.inr (.inl (1, 1)))), some (.inr (.inr (.inl (4, 4)))), some (.inl (c0_faultsOfPack_j13_0 f)), some (.inl ((((((c0_faultsOfPack_j36_0 f) ||| (c0_leakBit_v f (c0_faultsOfPack_j59_0 f))) ||| (c0_faultsOfPack_j81_0 f)) ||| (c0_weldBit1_v (c0_leakBit_m f (c0_faultsOfPack_j59_0 f)))) ||| (c0_silentBit_v (c0_weldBit1_m (c0_leakBit_m f (c0_faultsOfPack_j59_0 f))) (f 4 28))) ||| (c0_faultsOfPack_j138_1 f)))]) (st' := []) (m' := (c0_silentBit_m (c0_weldBit1_m (c0_leakBit_m f (c0_faultsOfPack_j59_0 f))) (f 4 28), l)) rfl rfl (fl_bo rfl) rfl ?_
    refine fl_Tq.stp (pc' := 151) (lv' := [some (.inr (.inr (.inl (1, 1)))), some (.inr (.inr (.inl (4, 4)))), some (.inl (c0_faultsOfPack_j13_0 f)), some (.inl ((((((c0_faultsOfPack_j36_0 f) ||| (c0_leakBit_v f (c0_faultsOfPack_j59_0 f))) ||| (c0_faultsOfPack_j81_0 f)) ||| (c0_weldBit1_v (c0_leakBit_m f (c0_faultsOfPack_j59_0 f)))) ||| (c0_silentBit_v (c0_weldBit1_m (c0_leakBit_m f (c0_faultsOfPack_j59_0 f))) (f 4 28))) ||| (c0_faultsOfPack_j138_1 f)))]) (st' := [.inl ((((((c0_faultsOfPack_j36_0 f) ||| (c0_leakBit_v f (c0_faultsOfPack_j59_0 f))) ||| (c0_faultsOfPack_j81_0 f)) ||| (c0_weldBit1_v (c0_leakBit_m f (c0_faultsOfPack_j59_0 f)))) ||| (c0_silentBit_v (c0_weldBit1_m (c0_leakBit_m f (c0_faultsOfPack_j59_0 f))) (f 4 28))) ||| (c0_faultsOfPack_j138_1 f))]) (m' := (c0_silentBit_m (c0_weldBit1_m (c0_leakBit_m f (c0_faultsOfPack_j59_0 f))) (f 4 28), l)) rfl rfl (fl_bo rfl) rfl ?_
    refine fl_Tq.ret rfl rfl rfl ?_
    unfold c0_faultsOfPack_v at k
    unfold c0_faultsOfPack_m at k
    simp only [if_neg h6] at k
    exact k
theorem c0_badd_hl {f : t2_F} {x y z : Int32} (hl : f 13 0 = (24 : Int32) ∧ (0 ≤ (f 13 2).toInt ∧ (f 13 2).toInt ≤ 23) ∧ (0 ≤ (f 13 3).toInt ∧ (f 13 3).toInt ≤ 24)) : c0_badd_m f x y z 13 0 = (24 : Int32) ∧ (0 ≤ (c0_badd_m f x y z 13 2).toInt ∧ (c0_badd_m f x y z 13 2).toInt ≤ 23) ∧ (0 ≤ (c0_badd_m f x y z 13 3).toInt ∧ (c0_badd_m f x y z 13 3).toInt ≤ 24) := by
  have e24 : (24 : Int32).toInt = 24 := by decide +kernel
  have e1 : (1 : Int32).toInt = 1 := by decide +kernel
  obtain ⟨h1, h2, h3⟩ := hl
  unfold c0_badd_m c0_badd_j48_0 c0_badd_j48_1
  rw [fl_row_self, upd_ne (by decide : 0 ≠ 2), upd_ne (by decide : 0 ≠ 3), upd_self, upd_ne (by decide : 3 ≠ 2), upd_self, h1]
  refine ⟨rfl, ?_, ?_⟩
  · split
    · exact h2
    · refine c0_bplace_b ?_ (by omega)
      rw [fl_row_ne (by decide)]
      exact ⟨h1, h2, h3⟩
  · split
    · rw [at_add32] <;> omega
    · exact h3
noncomputable def c0_latch_b5_j22_0 (f : t2_F) (x y : Int32) (a0 : Int32) (k : Nat) : Int32 := if (x &&& ((1 : Int32) <<< ((Int32.ofNat k) &&& 31))).toInt = 0 then a0 else (if ((f 10 3) &&& ((1 : Int32) <<< ((Int32.ofNat k) &&& 31))).toInt = 0 then a0 + (1 : Int32) else a0)
noncomputable def c0_latch_b5_m (f : t2_F) (x y : Int32) (a0 : Int32) (k : Nat) : t2_F := if (x &&& ((1 : Int32) <<< ((Int32.ofNat k) &&& 31))).toInt = 0 then f else (if ((f 10 3) &&& ((1 : Int32) <<< ((Int32.ofNat k) &&& 31))).toInt = 0 then c0_badd_m (fl_row (fl_row f 11 (upd (f 11) k y)) 10 (upd (f 10) 3 ((f 10 3) ||| ((1 : Int32) <<< ((Int32.ofNat k) &&& 31))))) y (Int32.ofNat k) (0 : Int32) else fl_row f 11 (upd (f 11) k y))
noncomputable def c0_latch_b5_v (f : t2_F) (x y : Int32) (a0 : Int32) (k : Nat) : Int32 := c0_latch_b5_j22_0 f x y a0 k
theorem c0_latch_b5_fr {f : t2_F} {x y : Int32} {a0 : Int32} {k : Nat} {p : Nat} (e0 : p ≠ 14) (e1 : p ≠ 13) (e2 : p ≠ 11) (e3 : p ≠ 10) : c0_latch_b5_m f x y a0 k p = f p := by
  unfold c0_latch_b5_m
  repeat' split
  all_goals first | rfl | (simp only [fl_row_ne e0, fl_row_ne e1, fl_row_ne e2, fl_row_ne e3, c0_badd_fr e0 e1]; done) | (simp only [fl_row_ne e0, fl_row_ne e1, fl_row_ne e2, fl_row_ne e3, c0_badd_fr e0 e1]; split <;> simp only [fl_row_ne e0, fl_row_ne e1, fl_row_ne e2, fl_row_ne e3, c0_badd_fr e0 e1])
theorem c0_latch_b5_q {L : Nat} {xs : Nat → Int32} {f : t2_F} {l : t2_L} {Q : Option fl_V → fl_M → Prop} {x y : Int32} {a0 : Int32} {k : Nat} {n : Nat} (hkn : k < n) (hb : ((11 : Int32)).toInt = (n : Int)) (h16 : n ≤ 11) (hlb : f 13 0 = (24 : Int32) ∧ (0 ≤ (f 13 2).toInt ∧ (f 13 2).toInt ≤ 23) ∧ (0 ≤ (f 13 3).toInt ∧ (f 13 3).toInt ≤ 24)) (hS : fl_Tq (pw_P L xs) 99 5 [some (.inr (.inr (.inl (10, 10)))), some (.inl x), some (.inl y), some (.inl (c0_latch_b5_v f x y a0 k)), some (.inl (Int32.ofNat (k + 1))), none] [] (c0_latch_b5_m f x y a0 k, l) Q) : fl_Tq (pw_P L xs) 99 5 [some (.inr (.inr (.inl (10, 10)))), some (.inl x), some (.inl y), some (.inl a0), some (.inl (Int32.ofNat k)), none] [] (f, l) Q := by
  refine fl_Tq.stp (pc' := 7) (lv' := [some (.inr (.inr (.inl (10, 10)))), some (.inl x), some (.inl y), some (.inl a0), some (.inl (Int32.ofNat k)), none]) (st' := [.inl (Int32.ofNat k)]) (m' := (f, l)) rfl rfl (fl_bo rfl) rfl ?_
  refine fl_Tq.cB (c := (11 : Int32)) rfl (by decide +kernel) (fl_bo rfl) ?_
  refine fl_Tq.jf rfl (fl_bo rfl) (c2_ge_f (t2_lk hkn hb)) rfl ?_
  refine fl_Tq.cI (c := (1 : Int32)) rfl (by decide +kernel) (fl_bo rfl) ?_
  refine fl_Tq.stp (pc' := 15) (lv' := [some (.inr (.inr (.inl (10, 10)))), some (.inl x), some (.inl y), some (.inl a0), some (.inl (Int32.ofNat k)), none]) (st' := [.inl (Int32.ofNat k), .inl (1 : Int32)]) (m' := (f, l)) rfl rfl (fl_bo rfl) rfl ?_
  refine fl_Tq.stp (pc' := 16) (lv' := [some (.inr (.inr (.inl (10, 10)))), some (.inl x), some (.inl y), some (.inl a0), some (.inl (Int32.ofNat k)), none]) (st' := [.inl ((1 : Int32) <<< ((Int32.ofNat k) &&& 31))]) (m' := (f, l)) rfl rfl (fl_bo rfl) rfl ?_
  refine fl_Tq.stp (pc' := 18) (lv' := [some (.inr (.inr (.inl (10, 10)))), some (.inl x), some (.inl y), some (.inl a0), some (.inl (Int32.ofNat k)), some (.inl ((1 : Int32) <<< ((Int32.ofNat k) &&& 31)))]) (st' := []) (m' := (f, l)) rfl rfl (fl_bo rfl) rfl ?_
  refine fl_Tq.stp (pc' := 19) (lv' := [some (.inr (.inr (.inl (10, 10)))), some (.inl x), some (.inl y), some (.inl a0), some (.inl (Int32.ofNat k)), some (.inl ((1 : Int32) <<< ((Int32.ofNat k) &&& 31)))]) (st' := [.inl x]) (m' := (f, l)) rfl rfl (fl_bo rfl) rfl ?_
  refine fl_Tq.stp (pc' := 21) (lv' := [some (.inr (.inr (.inl (10, 10)))), some (.inl x), some (.inl y), some (.inl a0), some (.inl (Int32.ofNat k)), some (.inl ((1 : Int32) <<< ((Int32.ofNat k) &&& 31)))]) (st' := [.inl ((1 : Int32) <<< ((Int32.ofNat k) &&& 31)), .inl x]) (m' := (f, l)) rfl rfl (fl_bo rfl) rfl ?_
  refine fl_Tq.stp (pc' := 22) (lv' := [some (.inr (.inr (.inl (10, 10)))), some (.inl x), some (.inl y), some (.inl a0), some (.inl (Int32.ofNat k)), some (.inl ((1 : Int32) <<< ((Int32.ofNat k) &&& 31)))]) (st' := [.inl (x &&& ((1 : Int32) <<< ((Int32.ofNat k) &&& 31)))]) (m' := (f, l)) rfl rfl (fl_bo rfl) rfl ?_
  have hj116 : fl_Tq (pw_P L xs) 99 68 [some (.inr (.inr (.inl (10, 10)))), some (.inl x), some (.inl y), some (.inl (c0_latch_b5_j22_0 f x y a0 k)), some (.inl (Int32.ofNat k)), some (.inl ((1 : Int32) <<< ((Int32.ofNat k) &&& 31)))] [] (if (x &&& ((1 : Int32) <<< ((Int32.ofNat k) &&& 31))).toInt = 0 then f else (if ((f 10 3) &&& ((1 : Int32) <<< ((Int32.ofNat k) &&& 31))).toInt = 0 then c0_badd_m (fl_row (fl_row f 11 (upd (f 11) k y)) 10 (upd (f 10) 3 ((f 10 3) ||| ((1 : Int32) <<< ((Int32.ofNat k) &&& 31))))) y (Int32.ofNat k) (0 : Int32) else fl_row f 11 (upd (f 11) k y)), l) Q → fl_Tq (pw_P L xs) 99 22 [some (.inr (.inr (.inl (10, 10)))), some (.inl x), some (.inl y), some (.inl a0), some (.inl (Int32.ofNat k)), some (.inl ((1 : Int32) <<< ((Int32.ofNat k) &&& 31)))] [.inl (x &&& ((1 : Int32) <<< ((Int32.ofNat k) &&& 31)))] (f, l) Q := by
    intro hJ
    by_cases h1 : (x &&& ((1 : Int32) <<< ((Int32.ofNat k) &&& 31))).toInt = 0
    · refine fl_Tq.zt rfl (fl_bo rfl) (c1_eq_t h1) rfl ?_
      have e0 : (c0_latch_b5_j22_0 f x y a0 k) = a0 := by simp only [c0_latch_b5_j22_0, if_pos h1]
      have e1 : (if (x &&& ((1 : Int32) <<< ((Int32.ofNat k) &&& 31))).toInt = 0 then f else (if ((f 10 3) &&& ((1 : Int32) <<< ((Int32.ofNat k) &&& 31))).toInt = 0 then c0_badd_m (fl_row (fl_row f 11 (upd (f 11) k y)) 10 (upd (f 10) 3 ((f 10 3) ||| ((1 : Int32) <<< ((Int32.ofNat k) &&& 31))))) y (Int32.ofNat k) (0 : Int32) else fl_row f 11 (upd (f 11) k y))) = f := by simp only [if_pos h1]
      rw [e0, e1] at hJ
      exact hJ
    · refine fl_Tq.zf rfl (fl_bo rfl) (c1_eq_f h1) rfl ?_
      refine fl_Tq.stp (pc' := 26) (lv' := [some (.inr (.inr (.inl (10, 10)))), some (.inl x), some (.inl y), some (.inl a0), some (.inl (Int32.ofNat k)), some (.inl ((1 : Int32) <<< ((Int32.ofNat k) &&& 31)))]) (st' := [.inr (.inr (.inl (10, 10)))]) (m' := (f, l)) rfl rfl (fl_bo rfl) rfl ?_
      refine fl_Tq.stp (pc' := 29) (lv' := [some (.inr (.inr (.inl (10, 10)))), some (.inl x), some (.inl y), some (.inl a0), some (.inl (Int32.ofNat k)), some (.inl ((1 : Int32) <<< ((Int32.ofNat k) &&& 31)))]) (st' := [.inr (.inr (.inl (11, 11)))]) (m' := (f, l)) rfl rfl (fl_bo rfl) rfl ?_
      refine fl_Tq.stp (pc' := 31) (lv' := [some (.inr (.inr (.inl (10, 10)))), some (.inl x), some (.inl y), some (.inl a0), some (.inl (Int32.ofNat k)), some (.inl ((1 : Int32) <<< ((Int32.ofNat k) &&& 31)))]) (st' := [.inl (Int32.ofNat k), .inr (.inr (.inl (11, 11)))]) (m' := (f, l)) rfl rfl (fl_bo rfl) rfl ?_
      refine fl_Tq.stp (pc' := 32) (lv' := [some (.inr (.inr (.inl (10, 10)))), some (.inl x), some (.inl y), some (.inl a0), some (.inl (Int32.ofNat k)), some (.inl ((1 : Int32) <<< ((Int32.ofNat k) &&& 31)))]) (st' := [.inl y, .inl (Int32.ofNat k), .inr (.inr (.inl (11, 11)))]) (m' := (f, l)) rfl rfl (fl_bo rfl) rfl ?_
      refine fl_Tq.svV (p := 11) (τ := 11) (n := 11) (z := (0, 0, 0)) (k := k) (m' := (fl_row f 11 (upd (f 11) k y), l)) rfl (fl_bo rfl) rfl (at_ofN (by omega)) (by omega) (t2_upn rfl) ?_
      refine fl_Tq.stp (pc' := 34) (lv' := [some (.inr (.inr (.inl (10, 10)))), some (.inl x), some (.inl y), some (.inl a0), some (.inl (Int32.ofNat k)), some (.inl ((1 : Int32) <<< ((Int32.ofNat k) &&& 31)))]) (st' := [.inr (.inr (.inl (10, 10)))]) (m' := (fl_row f 11 (upd (f 11) k y), l)) rfl rfl (fl_bo rfl) rfl ?_
      refine fl_Tq.gfV (k := 3) (v := f 10 3) rfl (fl_bo rfl) rfl (by simp only [fl_row_ne (by decide : 10 ≠ 11)]) ?_
      refine fl_Tq.stp (pc' := 39) (lv' := [some (.inr (.inr (.inl (10, 10)))), some (.inl x), some (.inl y), some (.inl a0), some (.inl (Int32.ofNat k)), some (.inl ((1 : Int32) <<< ((Int32.ofNat k) &&& 31)))]) (st' := [.inl ((1 : Int32) <<< ((Int32.ofNat k) &&& 31)), .inl (f 10 3)]) (m' := (fl_row f 11 (upd (f 11) k y), l)) rfl rfl (fl_bo rfl) rfl ?_
      refine fl_Tq.stp (pc' := 40) (lv' := [some (.inr (.inr (.inl (10, 10)))), some (.inl x), some (.inl y), some (.inl a0), some (.inl (Int32.ofNat k)), some (.inl ((1 : Int32) <<< ((Int32.ofNat k) &&& 31)))]) (st' := [.inl ((f 10 3) &&& ((1 : Int32) <<< ((Int32.ofNat k) &&& 31)))]) (m' := (fl_row f 11 (upd (f 11) k y), l)) rfl rfl (fl_bo rfl) rfl ?_
      by_cases h2 : ((f 10 3) &&& ((1 : Int32) <<< ((Int32.ofNat k) &&& 31))).toInt = 0
      · refine fl_Tq.zf rfl (fl_bo rfl) (c1_ne_f h2) rfl ?_
        refine fl_Tq.stp (pc' := 44) (lv' := [some (.inr (.inr (.inl (10, 10)))), some (.inl x), some (.inl y), some (.inl a0), some (.inl (Int32.ofNat k)), some (.inl ((1 : Int32) <<< ((Int32.ofNat k) &&& 31)))]) (st' := [.inr (.inr (.inl (10, 10)))]) (m' := (fl_row f 11 (upd (f 11) k y), l)) rfl rfl (fl_bo rfl) rfl ?_
        refine fl_Tq.stp (pc' := 45) (lv' := [some (.inr (.inr (.inl (10, 10)))), some (.inl x), some (.inl y), some (.inl a0), some (.inl (Int32.ofNat k)), some (.inl ((1 : Int32) <<< ((Int32.ofNat k) &&& 31)))]) (st' := [.inr (.inr (.inl (10, 10))), .inr (.inr (.inl (10, 10)))]) (m' := (fl_row f 11 (upd (f 11) k y), l)) rfl rfl (fl_bo rfl) rfl ?_
        refine fl_Tq.gfV (k := 3) (v := f 10 3) rfl (fl_bo rfl) rfl (by simp only [fl_row_ne (by decide : 10 ≠ 11)]) ?_
        refine fl_Tq.stp (pc' := 50) (lv' := [some (.inr (.inr (.inl (10, 10)))), some (.inl x), some (.inl y), some (.inl a0), some (.inl (Int32.ofNat k)), some (.inl ((1 : Int32) <<< ((Int32.ofNat k) &&& 31)))]) (st' := [.inl ((1 : Int32) <<< ((Int32.ofNat k) &&& 31)), .inl (f 10 3), .inr (.inr (.inl (10, 10)))]) (m' := (fl_row f 11 (upd (f 11) k y), l)) rfl rfl (fl_bo rfl) rfl ?_
        refine fl_Tq.stp (pc' := 51) (lv' := [some (.inr (.inr (.inl (10, 10)))), some (.inl x), some (.inl y), some (.inl a0), some (.inl (Int32.ofNat k)), some (.inl ((1 : Int32) <<< ((Int32.ofNat k) &&& 31)))]) (st' := [.inl ((f 10 3) ||| ((1 : Int32) <<< ((Int32.ofNat k) &&& 31))), .inr (.inr (.inl (10, 10)))]) (m' := (fl_row f 11 (upd (f 11) k y), l)) rfl rfl (fl_bo rfl) rfl ?_
        refine fl_Tq.pfV (k := 3) (m' := (fl_row (fl_row f 11 (upd (f 11) k y)) 10 (upd (f 10) 3 ((f 10 3) ||| ((1 : Int32) <<< ((Int32.ofNat k) &&& 31)))), l)) rfl (fl_bo rfl) rfl (t2_upn (by rw [fl_row_ne (by decide : 10 ≠ 11)])) ?_
        refine fl_Tq.stp (pc' := 55) (lv' := [some (.inr (.inr (.inl (10, 10)))), some (.inl x), some (.inl y), some (.inl a0), some (.inl (Int32.ofNat k)), some (.inl ((1 : Int32) <<< ((Int32.ofNat k) &&& 31)))]) (st' := [.inr (.inr (.inl (10, 10)))]) (m' := (fl_row (fl_row f 11 (upd (f 11) k y)) 10 (upd (f 10) 3 ((f 10 3) ||| ((1 : Int32) <<< ((Int32.ofNat k) &&& 31)))), l)) rfl rfl (fl_bo rfl) rfl ?_
        refine fl_Tq.stp (pc' := 58) (lv' := [some (.inr (.inr (.inl (10, 10)))), some (.inl x), some (.inl y), some (.inl a0), some (.inl (Int32.ofNat k)), some (.inl ((1 : Int32) <<< ((Int32.ofNat k) &&& 31)))]) (st' := [.inr (.inr (.inl (13, 13)))]) (m' := (fl_row (fl_row f 11 (upd (f 11) k y)) 10 (upd (f 10) 3 ((f 10 3) ||| ((1 : Int32) <<< ((Int32.ofNat k) &&& 31)))), l)) rfl rfl (fl_bo rfl) rfl ?_
        refine fl_Tq.stp (pc' := 59) (lv' := [some (.inr (.inr (.inl (10, 10)))), some (.inl x), some (.inl y), some (.inl a0), some (.inl (Int32.ofNat k)), some (.inl ((1 : Int32) <<< ((Int32.ofNat k) &&& 31)))]) (st' := [.inl y, .inr (.inr (.inl (13, 13)))]) (m' := (fl_row (fl_row f 11 (upd (f 11) k y)) 10 (upd (f 10) 3 ((f 10 3) ||| ((1 : Int32) <<< ((Int32.ofNat k) &&& 31)))), l)) rfl rfl (fl_bo rfl) rfl ?_
        refine fl_Tq.stp (pc' := 61) (lv' := [some (.inr (.inr (.inl (10, 10)))), some (.inl x), some (.inl y), some (.inl a0), some (.inl (Int32.ofNat k)), some (.inl ((1 : Int32) <<< ((Int32.ofNat k) &&& 31)))]) (st' := [.inl (Int32.ofNat k), .inl y, .inr (.inr (.inl (13, 13)))]) (m' := (fl_row (fl_row f 11 (upd (f 11) k y)) 10 (upd (f 10) 3 ((f 10 3) ||| ((1 : Int32) <<< ((Int32.ofNat k) &&& 31)))), l)) rfl rfl (fl_bo rfl) rfl ?_
        refine fl_Tq.cI (c := (0 : Int32)) rfl (by decide +kernel) (fl_bo rfl) ?_
        refine fl_Tq.cal rfl rfl (fl_bo rfl) rfl ?_
        refine c0_badd_q (by simp only [fl_row_ne (by decide : 13 ≠ 10), fl_row_ne (by decide : 13 ≠ 11)]; exact hlb) ?_
        show fl_Tq _ 99 65 [some (.inr (.inr (.inl (10, 10)))), some (.inl x), some (.inl y), some (.inl a0), some (.inl (Int32.ofNat k)), some (.inl ((1 : Int32) <<< ((Int32.ofNat k) &&& 31)))] [] (c0_badd_m (fl_row (fl_row f 11 (upd (f 11) k y)) 10 (upd (f 10) 3 ((f 10 3) ||| ((1 : Int32) <<< ((Int32.ofNat k) &&& 31))))) y (Int32.ofNat k) (0 : Int32), l) _
        refine fl_Tq.stp (pc' := 68) (lv' := [some (.inr (.inr (.inl (10, 10)))), some (.inl x), some (.inl y), some (.inl (a0 + (1 : Int32))), some (.inl (Int32.ofNat k)), some (.inl ((1 : Int32) <<< ((Int32.ofNat k) &&& 31)))]) (st' := []) (m' := (c0_badd_m (fl_row (fl_row f 11 (upd (f 11) k y)) 10 (upd (f 10) 3 ((f 10 3) ||| ((1 : Int32) <<< ((Int32.ofNat k) &&& 31))))) y (Int32.ofNat k) (0 : Int32), l)) rfl rfl (fl_bo rfl) rfl ?_
        have e0 : (c0_latch_b5_j22_0 f x y a0 k) = a0 + (1 : Int32) := by simp only [c0_latch_b5_j22_0, if_neg h1, if_pos h2]
        have e1 : (if (x &&& ((1 : Int32) <<< ((Int32.ofNat k) &&& 31))).toInt = 0 then f else (if ((f 10 3) &&& ((1 : Int32) <<< ((Int32.ofNat k) &&& 31))).toInt = 0 then c0_badd_m (fl_row (fl_row f 11 (upd (f 11) k y)) 10 (upd (f 10) 3 ((f 10 3) ||| ((1 : Int32) <<< ((Int32.ofNat k) &&& 31))))) y (Int32.ofNat k) (0 : Int32) else fl_row f 11 (upd (f 11) k y))) = c0_badd_m (fl_row (fl_row f 11 (upd (f 11) k y)) 10 (upd (f 10) 3 ((f 10 3) ||| ((1 : Int32) <<< ((Int32.ofNat k) &&& 31))))) y (Int32.ofNat k) (0 : Int32) := by simp only [if_neg h1, if_pos h2]
        rw [e0, e1] at hJ
        exact hJ
      · refine fl_Tq.zt rfl (fl_bo rfl) (c1_ne_t h2) rfl ?_
        have e0 : (c0_latch_b5_j22_0 f x y a0 k) = a0 := by simp only [c0_latch_b5_j22_0, if_neg h1, if_neg h2]
        have e1 : (if (x &&& ((1 : Int32) <<< ((Int32.ofNat k) &&& 31))).toInt = 0 then f else (if ((f 10 3) &&& ((1 : Int32) <<< ((Int32.ofNat k) &&& 31))).toInt = 0 then c0_badd_m (fl_row (fl_row f 11 (upd (f 11) k y)) 10 (upd (f 10) 3 ((f 10 3) ||| ((1 : Int32) <<< ((Int32.ofNat k) &&& 31))))) y (Int32.ofNat k) (0 : Int32) else fl_row f 11 (upd (f 11) k y))) = fl_row f 11 (upd (f 11) k y) := by simp only [if_neg h1, if_neg h2]
        rw [e0, e1] at hJ
        exact hJ
  refine hj116 ?_
  show fl_Tq _ 99 68 [some (.inr (.inr (.inl (10, 10)))), some (.inl x), some (.inl y), some (.inl (c0_latch_b5_j22_0 f x y a0 k)), some (.inl (Int32.ofNat k)), some (.inl ((1 : Int32) <<< ((Int32.ofNat k) &&& 31)))] [] (if (x &&& ((1 : Int32) <<< ((Int32.ofNat k) &&& 31))).toInt = 0 then f else (if ((f 10 3) &&& ((1 : Int32) <<< ((Int32.ofNat k) &&& 31))).toInt = 0 then c0_badd_m (fl_row (fl_row f 11 (upd (f 11) k y)) 10 (upd (f 10) 3 ((f 10 3) ||| ((1 : Int32) <<< ((Int32.ofNat k) &&& 31))))) y (Int32.ofNat k) (0 : Int32) else fl_row f 11 (upd (f 11) k y)), l) _
  refine fl_Tq.stp (pc' := 71) (lv' := [some (.inr (.inr (.inl (10, 10)))), some (.inl x), some (.inl y), some (.inl (c0_latch_b5_j22_0 f x y a0 k)), some (.inl ((Int32.ofNat k) + (1 : Int32))), some (.inl ((1 : Int32) <<< ((Int32.ofNat k) &&& 31)))]) (st' := []) (m' := (if (x &&& ((1 : Int32) <<< ((Int32.ofNat k) &&& 31))).toInt = 0 then f else (if ((f 10 3) &&& ((1 : Int32) <<< ((Int32.ofNat k) &&& 31))).toInt = 0 then c0_badd_m (fl_row (fl_row f 11 (upd (f 11) k y)) 10 (upd (f 10) 3 ((f 10 3) ||| ((1 : Int32) <<< ((Int32.ofNat k) &&& 31))))) y (Int32.ofNat k) (0 : Int32) else fl_row f 11 (upd (f 11) k y)), l)) rfl rfl (fl_bo rfl) rfl ?_
  refine fl_Tq.stp (pc' := 5) (lv' := [some (.inr (.inr (.inl (10, 10)))), some (.inl x), some (.inl y), some (.inl (c0_latch_b5_j22_0 f x y a0 k)), some (.inl ((Int32.ofNat k) + (1 : Int32))), some (.inl ((1 : Int32) <<< ((Int32.ofNat k) &&& 31)))]) (st' := []) (m' := (if (x &&& ((1 : Int32) <<< ((Int32.ofNat k) &&& 31))).toInt = 0 then f else (if ((f 10 3) &&& ((1 : Int32) <<< ((Int32.ofNat k) &&& 31))).toInt = 0 then c0_badd_m (fl_row (fl_row f 11 (upd (f 11) k y)) 10 (upd (f 10) 3 ((f 10 3) ||| ((1 : Int32) <<< ((Int32.ofNat k) &&& 31))))) y (Int32.ofNat k) (0 : Int32) else fl_row f 11 (upd (f 11) k y)), l)) rfl rfl (fl_bo rfl) rfl ?_
  have em : c0_latch_b5_m f x y a0 k = if (x &&& ((1 : Int32) <<< ((Int32.ofNat k) &&& 31))).toInt = 0 then f else (if ((f 10 3) &&& ((1 : Int32) <<< ((Int32.ofNat k) &&& 31))).toInt = 0 then c0_badd_m (fl_row (fl_row f 11 (upd (f 11) k y)) 10 (upd (f 10) 3 ((f 10 3) ||| ((1 : Int32) <<< ((Int32.ofNat k) &&& 31))))) y (Int32.ofNat k) (0 : Int32) else fl_row f 11 (upd (f 11) k y)) := rfl
  have ea : c0_latch_b5_v f x y a0 k = c0_latch_b5_j22_0 f x y a0 k := rfl
  rw [ea, em, ← t2_k1] at hS
  exact fl_Tq.fg hS ⟨rfl, rfl, rfl, rfl, rfl, True.intro⟩
noncomputable def c0_latch_l5 (f : t2_F) (x y : Int32) : Nat → t2_F × Int32
  | 0 => (f, (0 : Int32))
  | k + 1 => (c0_latch_b5_m (c0_latch_l5 f x y k).1 x y (c0_latch_l5 f x y k).2 k, c0_latch_b5_v (c0_latch_l5 f x y k).1 x y (c0_latch_l5 f x y k).2 k)
noncomputable def c0_latch_f5 (f : t2_F) (x y : Int32) (k : Nat) : t2_F := (c0_latch_l5 f x y k).1
noncomputable def c0_latch_a5_0 (f : t2_F) (x y : Int32) (k : Nat) : Int32 := (c0_latch_l5 f x y k).2
theorem c0_latch_f5_fr {f : t2_F} {x y : Int32} {p : Nat} : ∀ {k : Nat} (e0 : ∀ j : Nat, j < k → p ≠ 14) (e1 : ∀ j : Nat, j < k → p ≠ 13) (e2 : ∀ j : Nat, j < k → p ≠ 11) (e3 : ∀ j : Nat, j < k → p ≠ 10), c0_latch_f5 f x y k p = f p := by
  intro k
  induction k with
  | zero => intros; rfl
  | succ k ih =>
    intro e0 e1 e2 e3
    exact (c0_latch_b5_fr (a0 := (c0_latch_l5 f x y k).2) (e0 k (by omega)) (e1 k (by omega)) (e2 k (by omega)) (e3 k (by omega))).trans (ih (fun j hj => e0 j (by omega)) (fun j hj => e1 j (by omega)) (fun j hj => e2 j (by omega)) (fun j hj => e3 j (by omega)))
theorem c0_latch_il {f : t2_F} {x y : Int32} (hlb : f 13 0 = (24 : Int32) ∧ (0 ≤ (f 13 2).toInt ∧ (f 13 2).toInt ≤ 23) ∧ (0 ≤ (f 13 3).toInt ∧ (f 13 3).toInt ≤ 24)) : ∀ k : Nat, (c0_latch_f5 f x y k) 13 0 = (24 : Int32) ∧ (0 ≤ ((c0_latch_f5 f x y k) 13 2).toInt ∧ ((c0_latch_f5 f x y k) 13 2).toInt ≤ 23) ∧ (0 ≤ ((c0_latch_f5 f x y k) 13 3).toInt ∧ ((c0_latch_f5 f x y k) 13 3).toInt ≤ 24) := by
  intro k
  induction k with
  | zero => exact hlb
  | succ k ih =>
    show (c0_latch_b5_m (c0_latch_f5 f x y k) x y (c0_latch_a5_0 f x y k) k) 13 0 = (24 : Int32) ∧ (0 ≤ ((c0_latch_b5_m (c0_latch_f5 f x y k) x y (c0_latch_a5_0 f x y k) k) 13 2).toInt ∧ ((c0_latch_b5_m (c0_latch_f5 f x y k) x y (c0_latch_a5_0 f x y k) k) 13 2).toInt ≤ 23) ∧ (0 ≤ ((c0_latch_b5_m (c0_latch_f5 f x y k) x y (c0_latch_a5_0 f x y k) k) 13 3).toInt ∧ ((c0_latch_b5_m (c0_latch_f5 f x y k) x y (c0_latch_a5_0 f x y k) k) 13 3).toInt ≤ 24)
    unfold c0_latch_b5_m
    repeat' split
    all_goals first | exact ih | (simp only [fl_row_ne (by decide : (13 : Nat) ≠ 11), fl_row_ne (by decide : (13 : Nat) ≠ 10)]; exact ih) | (refine c0_badd_hl ?_; simp only [fl_row_ne (by decide : (13 : Nat) ≠ 11), fl_row_ne (by decide : (13 : Nat) ≠ 10)]; exact ih)
noncomputable def c0_latch_v (f : t2_F) (x y : Int32) : Int32 := c0_latch_a5_0 f x y 11
noncomputable def c0_latch_m (f : t2_F) (x y : Int32) : t2_F := c0_latch_f5 f x y 11
theorem c0_latch_fr {f : t2_F} {x y : Int32} {p : Nat} (e0 : p ≠ 14) (e1 : p ≠ 13) (e2 : p ≠ 11) (e3 : p ≠ 10) : c0_latch_m f x y p = f p := by
  unfold c0_latch_m
  repeat' split
  all_goals first | rfl | simp only [fl_row_ne e0, fl_row_ne e1, fl_row_ne e2, fl_row_ne e3, c0_latch_f5_fr (k := 11) (fun j hj => by omega) (fun j hj => by omega) (fun j hj => by omega) (fun j hj => by omega)]
theorem c0_latch_q {L : Nat} {xs : Nat → Int32} {f : t2_F} {l : t2_L} {Q : Option fl_V → fl_M → Prop} {x y : Int32} (hlb : f 13 0 = (24 : Int32) ∧ (0 ≤ (f 13 2).toInt ∧ (f 13 2).toInt ≤ 23) ∧ (0 ≤ (f 13 3).toInt ∧ (f 13 3).toInt ≤ 24)) (k : Q (some (.inl (c0_latch_v f x y))) (c0_latch_m f x y, l)) : fl_Tq (pw_P L xs) 99 0 (fl_args (am_mxl (pw_P L xs) 99) [.inr (.inr (.inl (10, 10))), .inl x, .inl y]) [] (f, l) Q := by
  refine fl_Tq.cI (c := (0 : Int32)) rfl (by decide +kernel) (fl_bo rfl) ?_
  refine fl_Tq.stp (pc' := 2) (lv' := [some (.inr (.inr (.inl (10, 10)))), some (.inl x), some (.inl y), some (.inl (0 : Int32)), none, none]) (st' := []) (m' := (f, l)) rfl rfl (fl_bo rfl) rfl ?_
  refine fl_Tq.cI (c := (0 : Int32)) rfl (by decide +kernel) (fl_bo rfl) ?_
  refine fl_Tq.stp (pc' := 5) (lv' := [some (.inr (.inr (.inl (10, 10)))), some (.inl x), some (.inl y), some (.inl (0 : Int32)), some (.inl (0 : Int32)), none]) (st' := []) (m' := (f, l)) rfl rfl (fl_bo rfl) rfl ?_
  have hs5 : ∀ k : Nat, k < 11 → fl_Tq (pw_P L xs) 99 5 [some (.inr (.inr (.inl (10, 10)))), some (.inl x), some (.inl y), some (.inl (c0_latch_a5_0 f x y (k + 1))), some (.inl (Int32.ofNat (k + 1))), none] [] (c0_latch_f5 f x y (k + 1), l) Q → fl_Tq (pw_P L xs) 99 5 [some (.inr (.inr (.inl (10, 10)))), some (.inl x), some (.inl y), some (.inl (c0_latch_a5_0 f x y k)), some (.inl (Int32.ofNat k)), none] [] (c0_latch_f5 f x y k, l) Q := fun k hkn hS => c0_latch_b5_q hkn (by decide +kernel) (by omega) (c0_latch_il hlb k) hS
  refine t2_for (S := fun k => fl_Tq (pw_P L xs) 99 5 [some (.inr (.inr (.inl (10, 10)))), some (.inl x), some (.inl y), some (.inl (c0_latch_a5_0 f x y k)), some (.inl (Int32.ofNat k)), none] [] (c0_latch_f5 f x y k, l) Q) hs5 ?_
  show fl_Tq (pw_P L xs) 99 5 [some (.inr (.inr (.inl (10, 10)))), some (.inl x), some (.inl y), some (.inl (c0_latch_a5_0 f x y 11)), some (.inl (Int32.ofNat 11)), none] [] (c0_latch_f5 f x y 11, l) _
  refine fl_Tq.stp (pc' := 7) (lv' := [some (.inr (.inr (.inl (10, 10)))), some (.inl x), some (.inl y), some (.inl (c0_latch_a5_0 f x y 11)), some (.inl (Int32.ofNat 11)), none]) (st' := [.inl (Int32.ofNat 11)]) (m' := (c0_latch_f5 f x y 11, l)) rfl rfl (fl_bo rfl) rfl ?_
  refine fl_Tq.cB (c := (11 : Int32)) rfl (by decide +kernel) (fl_bo rfl) ?_
  refine fl_Tq.jt rfl (fl_bo rfl) (c2_ge_t (t2_ln (by decide +kernel))) rfl ?_
  refine fl_Tq.stp (pc' := 75) (lv' := [some (.inr (.inr (.inl (10, 10)))), some (.inl x), some (.inl y), some (.inl (c0_latch_a5_0 f x y 11)), some (.inl (Int32.ofNat 11)), none]) (st' := [.inl (c0_latch_a5_0 f x y 11)]) (m' := (c0_latch_f5 f x y 11, l)) rfl rfl (fl_bo rfl) rfl ?_
  exact fl_Tq.ret rfl rfl rfl k
noncomputable def c2_tell_v (f : t2_F) (x : Int32) : Int32 := if x.toInt = 0 then f 181 5 else (if x.toInt = 1 then f 181 7 else (if x.toInt = 2 then f 181 8 else (if x.toInt = 3 then c2_packAt_v f (f 181 9) else (if x.toInt = 4 then f 181 9 else (if x.toInt = 5 then f 190 3 else (if x.toInt = 6 then f 181 6 else (if x.toInt = 7 then f 181 11 else (if x.toInt = 8 then f 181 12 else (if x.toInt = 9 then f 181 13 else (if x.toInt = 10 then f 181 14 else (if x.toInt = 11 then f 181 15 else (if x.toInt = 12 then f 183 7 else (if x.toInt = 13 then f 181 16 else (if x.toInt = 14 then c2_actualBits_v f else (if x.toInt = 15 then f 183 6 else (-1000000000 : Int32))))))))))))))))
theorem c2_tell_q {L : Nat} {xs : Nat → Int32} {f : t2_F} {l : t2_L} {Q : Option fl_V → fl_M → Prop} {x : Int32} (hc : 0 ≤ (f 181 5).toInt ∧ (f 181 5).toInt ≤ 16) (k : Q (some (.inl (c2_tell_v f x))) (f, l)) : fl_Tq (pw_P L xs) 72 0 (fl_args (am_mxl (pw_P L xs) 72) [.inr (.inr (.inl (49, 181))), .inl x]) [] (f, l) Q := by
  refine fl_Tq.stp (pc' := 1) (lv' := [some (.inr (.inr (.inl (49, 181)))), some (.inl x)]) (st' := [.inl x]) (m' := (f, l)) rfl rfl (fl_bo rfl) rfl ?_
  by_cases h1 : x.toInt = 0
  · refine fl_Tq.swI (k := 0) rfl (fl_bo rfl) h1 rfl rfl ?_
    refine fl_Tq.stp (pc' := 81) (lv' := [some (.inr (.inr (.inl (49, 181)))), some (.inl x)]) (st' := [.inr (.inr (.inl (49, 181)))]) (m' := (f, l)) rfl rfl (fl_bo rfl) rfl ?_
    refine fl_Tq.gfV (k := 5) (v := f 181 5) rfl (fl_bo rfl) rfl rfl ?_
    refine fl_Tq.ret rfl rfl rfl ?_
    unfold c2_tell_v at k
    simp only [if_pos h1] at k
    exact k
  by_cases h2 : x.toInt = 1
  · refine fl_Tq.swI (k := 1) rfl (fl_bo rfl) h2 rfl rfl ?_
    refine fl_Tq.stp (pc' := 86) (lv' := [some (.inr (.inr (.inl (49, 181)))), some (.inl x)]) (st' := [.inr (.inr (.inl (49, 181)))]) (m' := (f, l)) rfl rfl (fl_bo rfl) rfl ?_
    refine fl_Tq.gfV (k := 7) (v := f 181 7) rfl (fl_bo rfl) rfl rfl ?_
    refine fl_Tq.ret rfl rfl rfl ?_
    unfold c2_tell_v at k
    simp only [if_neg h1, if_pos h2] at k
    exact k
  by_cases h3 : x.toInt = 2
  · refine fl_Tq.swI (k := 2) rfl (fl_bo rfl) h3 rfl rfl ?_
    refine fl_Tq.stp (pc' := 91) (lv' := [some (.inr (.inr (.inl (49, 181)))), some (.inl x)]) (st' := [.inr (.inr (.inl (49, 181)))]) (m' := (f, l)) rfl rfl (fl_bo rfl) rfl ?_
    refine fl_Tq.gfV (k := 8) (v := f 181 8) rfl (fl_bo rfl) rfl rfl ?_
    refine fl_Tq.ret rfl rfl rfl ?_
    unfold c2_tell_v at k
    simp only [if_neg h1, if_neg h2, if_pos h3] at k
    exact k
  by_cases h4 : x.toInt = 3
  · refine fl_Tq.swI (k := 3) rfl (fl_bo rfl) h4 rfl rfl ?_
    refine fl_Tq.stp (pc' := 96) (lv' := [some (.inr (.inr (.inl (49, 181)))), some (.inl x)]) (st' := [.inr (.inr (.inl (49, 181)))]) (m' := (f, l)) rfl rfl (fl_bo rfl) rfl ?_
    refine fl_Tq.stp (pc' := 97) (lv' := [some (.inr (.inr (.inl (49, 181)))), some (.inl x)]) (st' := [.inr (.inr (.inl (49, 181))), .inr (.inr (.inl (49, 181)))]) (m' := (f, l)) rfl rfl (fl_bo rfl) rfl ?_
    refine fl_Tq.gfV (k := 9) (v := f 181 9) rfl (fl_bo rfl) rfl rfl ?_
    refine fl_Tq.cal rfl rfl (fl_bo rfl) rfl ?_
    refine c2_packAt_q hc ?_
    show fl_Tq _ 72 103 [some (.inr (.inr (.inl (49, 181)))), some (.inl x)] [.inl (c2_packAt_v f (f 181 9))] (f, l) _
    refine fl_Tq.ret rfl rfl rfl ?_
    unfold c2_tell_v at k
    simp only [if_neg h1, if_neg h2, if_neg h3, if_pos h4] at k
    exact k
  by_cases h5 : x.toInt = 4
  · refine fl_Tq.swI (k := 4) rfl (fl_bo rfl) h5 rfl rfl ?_
    refine fl_Tq.stp (pc' := 105) (lv' := [some (.inr (.inr (.inl (49, 181)))), some (.inl x)]) (st' := [.inr (.inr (.inl (49, 181)))]) (m' := (f, l)) rfl rfl (fl_bo rfl) rfl ?_
    refine fl_Tq.gfV (k := 9) (v := f 181 9) rfl (fl_bo rfl) rfl rfl ?_
    refine fl_Tq.ret rfl rfl rfl ?_
    unfold c2_tell_v at k
    simp only [if_neg h1, if_neg h2, if_neg h3, if_neg h4, if_pos h5] at k
    exact k
  by_cases h6 : x.toInt = 5
  · refine fl_Tq.swI (k := 5) rfl (fl_bo rfl) h6 rfl rfl ?_
    refine fl_Tq.stp (pc' := 110) (lv' := [some (.inr (.inr (.inl (49, 181)))), some (.inl x)]) (st' := [.inr (.inr (.inl (49, 181)))]) (m' := (f, l)) rfl rfl (fl_bo rfl) rfl ?_
    refine fl_Tq.stp (pc' := 113) (lv' := [some (.inr (.inr (.inl (49, 181)))), some (.inl x)]) (st' := [.inr (.inr (.inl (58, 190)))]) (m' := (f, l)) rfl rfl (fl_bo rfl) rfl ?_
    refine fl_Tq.gfV (k := 3) (v := f 190 3) rfl (fl_bo rfl) rfl rfl ?_
    refine fl_Tq.ret rfl rfl rfl ?_
    unfold c2_tell_v at k
    simp only [if_neg h1, if_neg h2, if_neg h3, if_neg h4, if_neg h5, if_pos h6] at k
    exact k
  by_cases h7 : x.toInt = 6
  · refine fl_Tq.swI (k := 6) rfl (fl_bo rfl) h7 rfl rfl ?_
    refine fl_Tq.stp (pc' := 118) (lv' := [some (.inr (.inr (.inl (49, 181)))), some (.inl x)]) (st' := [.inr (.inr (.inl (49, 181)))]) (m' := (f, l)) rfl rfl (fl_bo rfl) rfl ?_
    refine fl_Tq.gfV (k := 6) (v := f 181 6) rfl (fl_bo rfl) rfl rfl ?_
    refine fl_Tq.ret rfl rfl rfl ?_
    unfold c2_tell_v at k
    simp only [if_neg h1, if_neg h2, if_neg h3, if_neg h4, if_neg h5, if_neg h6, if_pos h7] at k
    exact k
  by_cases h8 : x.toInt = 7
  · refine fl_Tq.swI (k := 7) rfl (fl_bo rfl) h8 rfl rfl ?_
    refine fl_Tq.stp (pc' := 123) (lv' := [some (.inr (.inr (.inl (49, 181)))), some (.inl x)]) (st' := [.inr (.inr (.inl (49, 181)))]) (m' := (f, l)) rfl rfl (fl_bo rfl) rfl ?_
    refine fl_Tq.gfV (k := 11) (v := f 181 11) rfl (fl_bo rfl) rfl rfl ?_
    refine fl_Tq.ret rfl rfl rfl ?_
    unfold c2_tell_v at k
    simp only [if_neg h1, if_neg h2, if_neg h3, if_neg h4, if_neg h5, if_neg h6, if_neg h7, if_pos h8] at k
    exact k
  by_cases h9 : x.toInt = 8
  · refine fl_Tq.swI (k := 8) rfl (fl_bo rfl) h9 rfl rfl ?_
    refine fl_Tq.stp (pc' := 128) (lv' := [some (.inr (.inr (.inl (49, 181)))), some (.inl x)]) (st' := [.inr (.inr (.inl (49, 181)))]) (m' := (f, l)) rfl rfl (fl_bo rfl) rfl ?_
    refine fl_Tq.gfV (k := 12) (v := f 181 12) rfl (fl_bo rfl) rfl rfl ?_
    refine fl_Tq.ret rfl rfl rfl ?_
    unfold c2_tell_v at k
    simp only [if_neg h1, if_neg h2, if_neg h3, if_neg h4, if_neg h5, if_neg h6, if_neg h7, if_neg h8, if_pos h9] at k
    exact k
  by_cases h10 : x.toInt = 9
  · refine fl_Tq.swI (k := 9) rfl (fl_bo rfl) h10 rfl rfl ?_
    refine fl_Tq.stp (pc' := 133) (lv' := [some (.inr (.inr (.inl (49, 181)))), some (.inl x)]) (st' := [.inr (.inr (.inl (49, 181)))]) (m' := (f, l)) rfl rfl (fl_bo rfl) rfl ?_
    refine fl_Tq.gfV (k := 13) (v := f 181 13) rfl (fl_bo rfl) rfl rfl ?_
    refine fl_Tq.ret rfl rfl rfl ?_
    unfold c2_tell_v at k
    simp only [if_neg h1, if_neg h2, if_neg h3, if_neg h4, if_neg h5, if_neg h6, if_neg h7, if_neg h8, if_neg h9, if_pos h10] at k
    exact k
  by_cases h11 : x.toInt = 10
  · refine fl_Tq.swI (k := 10) rfl (fl_bo rfl) h11 rfl rfl ?_
    refine fl_Tq.stp (pc' := 138) (lv' := [some (.inr (.inr (.inl (49, 181)))), some (.inl x)]) (st' := [.inr (.inr (.inl (49, 181)))]) (m' := (f, l)) rfl rfl (fl_bo rfl) rfl ?_
    refine fl_Tq.gfV (k := 14) (v := f 181 14) rfl (fl_bo rfl) rfl rfl ?_
    refine fl_Tq.ret rfl rfl rfl ?_
    unfold c2_tell_v at k
    simp only [if_neg h1, if_neg h2, if_neg h3, if_neg h4, if_neg h5, if_neg h6, if_neg h7, if_neg h8, if_neg h9, if_neg h10, if_pos h11] at k
    exact k
  by_cases h12 : x.toInt = 11
  · refine fl_Tq.swI (k := 11) rfl (fl_bo rfl) h12 rfl rfl ?_
    refine fl_Tq.stp (pc' := 143) (lv' := [some (.inr (.inr (.inl (49, 181)))), some (.inl x)]) (st' := [.inr (.inr (.inl (49, 181)))]) (m' := (f, l)) rfl rfl (fl_bo rfl) rfl ?_
    refine fl_Tq.gfV (k := 15) (v := f 181 15) rfl (fl_bo rfl) rfl rfl ?_
    refine fl_Tq.ret rfl rfl rfl ?_
    unfold c2_tell_v at k
    simp only [if_neg h1, if_neg h2, if_neg h3, if_neg h4, if_neg h5, if_neg h6, if_neg h7, if_neg h8, if_neg h9, if_neg h10, if_neg h11, if_pos h12] at k
    exact k
  by_cases h13 : x.toInt = 12
  · refine fl_Tq.swI (k := 12) rfl (fl_bo rfl) h13 rfl rfl ?_
    refine fl_Tq.stp (pc' := 148) (lv' := [some (.inr (.inr (.inl (49, 181)))), some (.inl x)]) (st' := [.inr (.inr (.inl (49, 181)))]) (m' := (f, l)) rfl rfl (fl_bo rfl) rfl ?_
    refine fl_Tq.stp (pc' := 151) (lv' := [some (.inr (.inr (.inl (49, 181)))), some (.inl x)]) (st' := [.inr (.inr (.inl (51, 183)))]) (m' := (f, l)) rfl rfl (fl_bo rfl) rfl ?_
    refine fl_Tq.gfV (k := 7) (v := f 183 7) rfl (fl_bo rfl) rfl rfl ?_
    refine fl_Tq.ret rfl rfl rfl ?_
    unfold c2_tell_v at k
    simp only [if_neg h1, if_neg h2, if_neg h3, if_neg h4, if_neg h5, if_neg h6, if_neg h7, if_neg h8, if_neg h9, if_neg h10, if_neg h11, if_neg h12, if_pos h13] at k
    exact k
  by_cases h14 : x.toInt = 13
  · refine fl_Tq.swI (k := 13) rfl (fl_bo rfl) h14 rfl rfl ?_
    refine fl_Tq.stp (pc' := 156) (lv' := [some (.inr (.inr (.inl (49, 181)))), some (.inl x)]) (st' := [.inr (.inr (.inl (49, 181)))]) (m' := (f, l)) rfl rfl (fl_bo rfl) rfl ?_
    refine fl_Tq.gfV (k := 16) (v := f 181 16) rfl (fl_bo rfl) rfl rfl ?_
    refine fl_Tq.ret rfl rfl rfl ?_
    unfold c2_tell_v at k
    simp only [if_neg h1, if_neg h2, if_neg h3, if_neg h4, if_neg h5, if_neg h6, if_neg h7, if_neg h8, if_neg h9, if_neg h10, if_neg h11, if_neg h12, if_neg h13, if_pos h14] at k
    exact k
  by_cases h15 : x.toInt = 14
  · refine fl_Tq.swI (k := 14) rfl (fl_bo rfl) h15 rfl rfl ?_
    refine fl_Tq.stp (pc' := 161) (lv' := [some (.inr (.inr (.inl (49, 181)))), some (.inl x)]) (st' := [.inr (.inr (.inl (49, 181)))]) (m' := (f, l)) rfl rfl (fl_bo rfl) rfl ?_
    refine fl_Tq.cal rfl rfl (fl_bo rfl) rfl ?_
    refine c2_actualBits_q  ?_
    show fl_Tq _ 72 164 [some (.inr (.inr (.inl (49, 181)))), some (.inl x)] [.inl (c2_actualBits_v f)] (f, l) _
    refine fl_Tq.ret rfl rfl rfl ?_
    unfold c2_tell_v at k
    simp only [if_neg h1, if_neg h2, if_neg h3, if_neg h4, if_neg h5, if_neg h6, if_neg h7, if_neg h8, if_neg h9, if_neg h10, if_neg h11, if_neg h12, if_neg h13, if_neg h14, if_pos h15] at k
    exact k
  by_cases h16 : x.toInt = 15
  · refine fl_Tq.swI (k := 15) rfl (fl_bo rfl) h16 rfl rfl ?_
    refine fl_Tq.stp (pc' := 166) (lv' := [some (.inr (.inr (.inl (49, 181)))), some (.inl x)]) (st' := [.inr (.inr (.inl (49, 181)))]) (m' := (f, l)) rfl rfl (fl_bo rfl) rfl ?_
    refine fl_Tq.stp (pc' := 169) (lv' := [some (.inr (.inr (.inl (49, 181)))), some (.inl x)]) (st' := [.inr (.inr (.inl (51, 183)))]) (m' := (f, l)) rfl rfl (fl_bo rfl) rfl ?_
    refine fl_Tq.gfV (k := 6) (v := f 183 6) rfl (fl_bo rfl) rfl rfl ?_
    refine fl_Tq.ret rfl rfl rfl ?_
    unfold c2_tell_v at k
    simp only [if_neg h1, if_neg h2, if_neg h3, if_neg h4, if_neg h5, if_neg h6, if_neg h7, if_neg h8, if_neg h9, if_neg h10, if_neg h11, if_neg h12, if_neg h13, if_neg h14, if_neg h15, if_pos h16] at k
    exact k
  refine fl_Tq.swD rfl (fl_bo rfl) (by omega) rfl ?_
  refine fl_Tq.stp (pc' := 176) (lv' := [some (.inr (.inr (.inl (49, 181)))), some (.inl x)]) (st' := [.inl (-1000000000 : Int32)]) (m' := (f, l)) rfl rfl (fl_bo rfl) rfl ?_
  refine fl_Tq.ret rfl rfl rfl ?_
  unfold c2_tell_v at k
  simp only [if_neg h1, if_neg h2, if_neg h3, if_neg h4, if_neg h5, if_neg h6, if_neg h7, if_neg h8, if_neg h9, if_neg h10, if_neg h11, if_neg h12, if_neg h13, if_neg h14, if_neg h15, if_neg h16] at k
  exact k
noncomputable def c2_faultsOfPack_j13_0 (f : t2_F)  : Int32 := if (f 181 7).toInt = (2 : Int32).toInt then (if (f 184 4).toInt < (t2_abs_v (f 184 20)).toInt then (1 : Int32) else (0 : Int32)) else (0 : Int32)
noncomputable def c2_faultsOfPack_j36_0 (f : t2_F)  : Int32 := if (c2_faultsOfPack_j13_0 f).toInt = 0 then (0 : Int32) else (16 : Int32)
noncomputable def c2_faultsOfPack_j59_0 (f : t2_F)  : Int32 := if (f 184 9).toInt < (f 184 10).toInt then (1 : Int32) else (0 : Int32)
noncomputable def c2_faultsOfPack_j81_0 (f : t2_F)  : Int32 := if (f 184 17).toInt < (c2_partSpread_v (c2_leakBit_m f (c2_faultsOfPack_j59_0 f))).toInt then (128 : Int32) else (0 : Int32)
noncomputable def c2_faultsOfPack_j138_0 (f : t2_F)  : Int32 := if (f 184 29).toInt = 0 then (1024 : Int32) else (0 : Int32)
noncomputable def c2_faultsOfPack_j138_1 (f : t2_F)  : Int32 := if (f 184 29).toInt = 0 then (1024 : Int32) else (0 : Int32)
noncomputable def c2_faultsOfPack_v (f : t2_F) : Int32 := if (c2_actualBits_v (c2_leakBit_m f (c2_faultsOfPack_j59_0 f))).toInt = (c2_orderedBits_v (c2_leakBit_m f (c2_faultsOfPack_j59_0 f))).toInt then (((((c2_faultsOfPack_j36_0 f) ||| (c2_leakBit_v f (c2_faultsOfPack_j59_0 f))) ||| (c2_faultsOfPack_j81_0 f)) ||| c2_weldBit0_v) ||| (c2_silentBit_v (c2_weldBit0_m (c2_leakBit_m f (c2_faultsOfPack_j59_0 f))) (f 184 28))) ||| (c2_faultsOfPack_j138_0 f) else (((((c2_faultsOfPack_j36_0 f) ||| (c2_leakBit_v f (c2_faultsOfPack_j59_0 f))) ||| (c2_faultsOfPack_j81_0 f)) ||| (c2_weldBit1_v (c2_leakBit_m f (c2_faultsOfPack_j59_0 f)))) ||| (c2_silentBit_v (c2_weldBit1_m (c2_leakBit_m f (c2_faultsOfPack_j59_0 f))) (f 184 28))) ||| (c2_faultsOfPack_j138_1 f)
noncomputable def c2_faultsOfPack_m (f : t2_F) : t2_F := if (c2_actualBits_v (c2_leakBit_m f (c2_faultsOfPack_j59_0 f))).toInt = (c2_orderedBits_v (c2_leakBit_m f (c2_faultsOfPack_j59_0 f))).toInt then c2_silentBit_m (c2_weldBit0_m (c2_leakBit_m f (c2_faultsOfPack_j59_0 f))) (f 184 28) else c2_silentBit_m (c2_weldBit1_m (c2_leakBit_m f (c2_faultsOfPack_j59_0 f))) (f 184 28)
theorem c2_faultsOfPack_fr {f : t2_F}  {p : Nat} (e0 : p ≠ 190) : c2_faultsOfPack_m f p = f p := by
  unfold c2_faultsOfPack_m
  repeat' split
  all_goals first | rfl | simp only [fl_row_ne e0, c2_silentBit_fr e0, c2_weldBit0_fr e0, c2_leakBit_fr e0, c2_weldBit1_fr e0]
theorem c2_faultsOfPack_q {L : Nat} {xs : Nat → Int32} {f : t2_F} {l : t2_L} {Q : Option fl_V → fl_M → Prop}  (hc : 0 ≤ (f 181 5).toInt ∧ (f 181 5).toInt ≤ 16) (k : Q (some (.inl (c2_faultsOfPack_v f))) (c2_faultsOfPack_m f, l)) : fl_Tq (pw_P L xs) 69 0 (fl_args (am_mxl (pw_P L xs) 69) [.inr (.inr (.inl (49, 181)))]) [] (f, l) Q := by
  refine fl_Tq.stp (pc' := 1) (lv' := [some (.inr (.inr (.inl (49, 181)))), none, none, none]) (st' := [.inr (.inr (.inl (49, 181)))]) (m' := (f, l)) rfl rfl (fl_bo rfl) rfl ?_
  refine fl_Tq.stp (pc' := 4) (lv' := [some (.inr (.inr (.inl (49, 181)))), none, none, none]) (st' := [.inr (.inr (.inl (51, 183)))]) (m' := (f, l)) rfl rfl (fl_bo rfl) rfl ?_
  refine fl_Tq.stp (pc' := 7) (lv' := [some (.inr (.inr (.inl (49, 181)))), none, none, none]) (st' := [.inr (.inr (.inl (52, 184)))]) (m' := (f, l)) rfl rfl (fl_bo rfl) rfl ?_
  refine fl_Tq.stp (pc' := 8) (lv' := [some (.inr (.inr (.inl (49, 181)))), some (.inr (.inr (.inl (52, 184)))), none, none]) (st' := []) (m' := (f, l)) rfl rfl (fl_bo rfl) rfl ?_
  refine fl_Tq.stp (pc' := 9) (lv' := [some (.inr (.inr (.inl (49, 181)))), some (.inr (.inr (.inl (52, 184)))), none, none]) (st' := [.inr (.inr (.inl (49, 181)))]) (m' := (f, l)) rfl rfl (fl_bo rfl) rfl ?_
  refine fl_Tq.gfV (k := 7) (v := f 181 7) rfl (fl_bo rfl) rfl rfl ?_
  refine fl_Tq.cI (c := (2 : Int32)) rfl (by decide +kernel) (fl_bo rfl) ?_
  have hj117 : fl_Tq (pw_P L xs) 69 34 [some (.inr (.inr (.inl (49, 181)))), some (.inr (.inr (.inl (52, 184)))), none, none] [.inl (c2_faultsOfPack_j13_0 f)] (f, l) Q → fl_Tq (pw_P L xs) 69 13 [some (.inr (.inr (.inl (49, 181)))), some (.inr (.inr (.inl (52, 184)))), none, none] [.inl (2 : Int32), .inl (f 181 7)] (f, l) Q := by
    intro hJ
    by_cases h1 : (f 181 7).toInt = (2 : Int32).toInt
    · refine fl_Tq.jf rfl (fl_bo rfl) (c2_ne_f h1) rfl ?_
      refine fl_Tq.stp (pc' := 17) (lv' := [some (.inr (.inr (.inl (49, 181)))), some (.inr (.inr (.inl (52, 184)))), none, none]) (st' := [.inr (.inr (.inl (52, 184)))]) (m' := (f, l)) rfl rfl (fl_bo rfl) rfl ?_
      refine fl_Tq.cB (c := (20 : Int32)) rfl (by decide +kernel) (fl_bo rfl) ?_
      refine fl_Tq.ldV (p := 184) (τ := 52) (n := 30) (z := (0, 0, 0)) (k := 20) (v := f 184 20) rfl (fl_bo rfl) rfl (by decide +kernel) (by decide) rfl ?_
      refine fl_Tq.cal rfl rfl (fl_bo rfl) rfl ?_
      refine t2_abs_q  ?_
      show fl_Tq _ 69 23 [some (.inr (.inr (.inl (49, 181)))), some (.inr (.inr (.inl (52, 184)))), none, none] [.inl (t2_abs_v (f 184 20))] (f, l) _
      refine fl_Tq.stp (pc' := 24) (lv' := [some (.inr (.inr (.inl (49, 181)))), some (.inr (.inr (.inl (52, 184)))), none, none]) (st' := [.inr (.inr (.inl (52, 184))), .inl (t2_abs_v (f 184 20))]) (m' := (f, l)) rfl rfl (fl_bo rfl) rfl ?_
      refine fl_Tq.cI (c := (4 : Int32)) rfl (by decide +kernel) (fl_bo rfl) ?_
      refine fl_Tq.ldV (p := 184) (τ := 52) (n := 30) (z := (0, 0, 0)) (k := 4) (v := f 184 4) rfl (fl_bo rfl) rfl (by decide +kernel) (by decide) rfl ?_
      by_cases h2 : (f 184 4).toInt < (t2_abs_v (f 184 20)).toInt
      · refine fl_Tq.jf rfl (fl_bo rfl) (c2_le_f h2) rfl ?_
        refine fl_Tq.cI (c := (1 : Int32)) rfl (by decide +kernel) (fl_bo rfl) ?_
        refine fl_Tq.stp (pc' := 34) (lv' := [some (.inr (.inr (.inl (49, 181)))), some (.inr (.inr (.inl (52, 184)))), none, none]) (st' := [.inl (1 : Int32)]) (m' := (f, l)) rfl rfl (fl_bo rfl) rfl ?_
        have e0 : (c2_faultsOfPack_j13_0 f) = (1 : Int32) := by simp only [c2_faultsOfPack_j13_0, if_pos h1, if_pos h2]
        rw [e0] at hJ
        exact hJ
      · refine fl_Tq.jt rfl (fl_bo rfl) (c2_le_t h2) rfl ?_
        refine fl_Tq.cI (c := (0 : Int32)) rfl (by decide +kernel) (fl_bo rfl) ?_
        have e0 : (c2_faultsOfPack_j13_0 f) = (0 : Int32) := by simp only [c2_faultsOfPack_j13_0, if_pos h1, if_neg h2]
        rw [e0] at hJ
        exact hJ
    · refine fl_Tq.jt rfl (fl_bo rfl) (c2_ne_t h1) rfl ?_
      refine fl_Tq.cI (c := (0 : Int32)) rfl (by decide +kernel) (fl_bo rfl) ?_
      have e0 : (c2_faultsOfPack_j13_0 f) = (0 : Int32) := by simp only [c2_faultsOfPack_j13_0, if_neg h1]
      rw [e0] at hJ
      exact hJ
  refine hj117 ?_
  show fl_Tq _ 69 34 [some (.inr (.inr (.inl (49, 181)))), some (.inr (.inr (.inl (52, 184)))), none, none] [.inl (c2_faultsOfPack_j13_0 f)] (f, l) _
  refine fl_Tq.stp (pc' := 35) (lv' := [some (.inr (.inr (.inl (49, 181)))), some (.inr (.inr (.inl (52, 184)))), some (.inl (c2_faultsOfPack_j13_0 f)), none]) (st' := []) (m' := (f, l)) rfl rfl (fl_bo rfl) rfl ?_
  refine fl_Tq.stp (pc' := 36) (lv' := [some (.inr (.inr (.inl (49, 181)))), some (.inr (.inr (.inl (52, 184)))), some (.inl (c2_faultsOfPack_j13_0 f)), none]) (st' := [.inl (c2_faultsOfPack_j13_0 f)]) (m' := (f, l)) rfl rfl (fl_bo rfl) rfl ?_
  have hj118 : fl_Tq (pw_P L xs) 69 45 [some (.inr (.inr (.inl (49, 181)))), some (.inr (.inr (.inl (52, 184)))), some (.inl (c2_faultsOfPack_j13_0 f)), none] [.inl (c2_faultsOfPack_j36_0 f)] (f, l) Q → fl_Tq (pw_P L xs) 69 36 [some (.inr (.inr (.inl (49, 181)))), some (.inr (.inr (.inl (52, 184)))), some (.inl (c2_faultsOfPack_j13_0 f)), none] [.inl (c2_faultsOfPack_j13_0 f)] (f, l) Q := by
    intro hJ
    by_cases h3 : (c2_faultsOfPack_j13_0 f).toInt = 0
    · refine fl_Tq.zt rfl (fl_bo rfl) (c1_eq_t h3) rfl ?_
      refine fl_Tq.cI (c := (0 : Int32)) rfl (by decide +kernel) (fl_bo rfl) ?_
      have e0 : (c2_faultsOfPack_j36_0 f) = (0 : Int32) := by simp only [c2_faultsOfPack_j36_0, if_pos h3]
      rw [e0] at hJ
      exact hJ
    · refine fl_Tq.zf rfl (fl_bo rfl) (c1_eq_f h3) rfl ?_
      refine fl_Tq.cB (c := (16 : Int32)) rfl (by decide +kernel) (fl_bo rfl) ?_
      refine fl_Tq.stp (pc' := 45) (lv' := [some (.inr (.inr (.inl (49, 181)))), some (.inr (.inr (.inl (52, 184)))), some (.inl (c2_faultsOfPack_j13_0 f)), none]) (st' := [.inl (16 : Int32)]) (m' := (f, l)) rfl rfl (fl_bo rfl) rfl ?_
      have e0 : (c2_faultsOfPack_j36_0 f) = (16 : Int32) := by simp only [c2_faultsOfPack_j36_0, if_neg h3]
      rw [e0] at hJ
      exact hJ
  refine hj118 ?_
  show fl_Tq _ 69 45 [some (.inr (.inr (.inl (49, 181)))), some (.inr (.inr (.inl (52, 184)))), some (.inl (c2_faultsOfPack_j13_0 f)), none] [.inl (c2_faultsOfPack_j36_0 f)] (f, l) _
  refine fl_Tq.stp (pc' := 46) (lv' := [some (.inr (.inr (.inl (49, 181)))), some (.inr (.inr (.inl (52, 184)))), some (.inl (c2_faultsOfPack_j13_0 f)), some (.inl (c2_faultsOfPack_j36_0 f))]) (st' := []) (m' := (f, l)) rfl rfl (fl_bo rfl) rfl ?_
  refine fl_Tq.stp (pc' := 47) (lv' := [some (.inr (.inr (.inl (49, 181)))), some (.inr (.inr (.inl (52, 184)))), some (.inl (c2_faultsOfPack_j13_0 f)), some (.inl (c2_faultsOfPack_j36_0 f))]) (st' := [.inl (c2_faultsOfPack_j36_0 f)]) (m' := (f, l)) rfl rfl (fl_bo rfl) rfl ?_
  refine fl_Tq.stp (pc' := 48) (lv' := [some (.inr (.inr (.inl (49, 181)))), some (.inr (.inr (.inl (52, 184)))), some (.inl (c2_faultsOfPack_j13_0 f)), some (.inl (c2_faultsOfPack_j36_0 f))]) (st' := [.inr (.inr (.inl (49, 181))), .inl (c2_faultsOfPack_j36_0 f)]) (m' := (f, l)) rfl rfl (fl_bo rfl) rfl ?_
  refine fl_Tq.stp (pc' := 51) (lv' := [some (.inr (.inr (.inl (49, 181)))), some (.inr (.inr (.inl (52, 184)))), some (.inl (c2_faultsOfPack_j13_0 f)), some (.inl (c2_faultsOfPack_j36_0 f))]) (st' := [.inr (.inr (.inl (58, 190))), .inl (c2_faultsOfPack_j36_0 f)]) (m' := (f, l)) rfl rfl (fl_bo rfl) rfl ?_
  refine fl_Tq.stp (pc' := 52) (lv' := [some (.inr (.inr (.inl (49, 181)))), some (.inr (.inr (.inl (52, 184)))), some (.inl (c2_faultsOfPack_j13_0 f)), some (.inl (c2_faultsOfPack_j36_0 f))]) (st' := [.inr (.inr (.inl (52, 184))), .inr (.inr (.inl (58, 190))), .inl (c2_faultsOfPack_j36_0 f)]) (m' := (f, l)) rfl rfl (fl_bo rfl) rfl ?_
  refine fl_Tq.cB (c := (9 : Int32)) rfl (by decide +kernel) (fl_bo rfl) ?_
  refine fl_Tq.ldV (p := 184) (τ := 52) (n := 30) (z := (0, 0, 0)) (k := 9) (v := f 184 9) rfl (fl_bo rfl) rfl (by decide +kernel) (by decide) rfl ?_
  refine fl_Tq.stp (pc' := 56) (lv' := [some (.inr (.inr (.inl (49, 181)))), some (.inr (.inr (.inl (52, 184)))), some (.inl (c2_faultsOfPack_j13_0 f)), some (.inl (c2_faultsOfPack_j36_0 f))]) (st' := [.inr (.inr (.inl (52, 184))), .inl (f 184 9), .inr (.inr (.inl (58, 190))), .inl (c2_faultsOfPack_j36_0 f)]) (m' := (f, l)) rfl rfl (fl_bo rfl) rfl ?_
  refine fl_Tq.cB (c := (10 : Int32)) rfl (by decide +kernel) (fl_bo rfl) ?_
  refine fl_Tq.ldV (p := 184) (τ := 52) (n := 30) (z := (0, 0, 0)) (k := 10) (v := f 184 10) rfl (fl_bo rfl) rfl (by decide +kernel) (by decide) rfl ?_
  have hj119 : fl_Tq (pw_P L xs) 69 67 [some (.inr (.inr (.inl (49, 181)))), some (.inr (.inr (.inl (52, 184)))), some (.inl (c2_faultsOfPack_j13_0 f)), some (.inl (c2_faultsOfPack_j36_0 f))] [.inl (c2_faultsOfPack_j59_0 f), .inr (.inr (.inl (58, 190))), .inl (c2_faultsOfPack_j36_0 f)] (f, l) Q → fl_Tq (pw_P L xs) 69 59 [some (.inr (.inr (.inl (49, 181)))), some (.inr (.inr (.inl (52, 184)))), some (.inl (c2_faultsOfPack_j13_0 f)), some (.inl (c2_faultsOfPack_j36_0 f))] [.inl (f 184 10), .inl (f 184 9), .inr (.inr (.inl (58, 190))), .inl (c2_faultsOfPack_j36_0 f)] (f, l) Q := by
    intro hJ
    by_cases h4 : (f 184 9).toInt < (f 184 10).toInt
    · refine fl_Tq.jf rfl (fl_bo rfl) (c2_ge_f h4) rfl ?_
      refine fl_Tq.cI (c := (1 : Int32)) rfl (by decide +kernel) (fl_bo rfl) ?_
      refine fl_Tq.stp (pc' := 67) (lv' := [some (.inr (.inr (.inl (49, 181)))), some (.inr (.inr (.inl (52, 184)))), some (.inl (c2_faultsOfPack_j13_0 f)), some (.inl (c2_faultsOfPack_j36_0 f))]) (st' := [.inl (1 : Int32), .inr (.inr (.inl (58, 190))), .inl (c2_faultsOfPack_j36_0 f)]) (m' := (f, l)) rfl rfl (fl_bo rfl) rfl ?_
      have e0 : (c2_faultsOfPack_j59_0 f) = (1 : Int32) := by simp only [c2_faultsOfPack_j59_0, if_pos h4]
      rw [e0] at hJ
      exact hJ
    · refine fl_Tq.jt rfl (fl_bo rfl) (c2_ge_t h4) rfl ?_
      refine fl_Tq.cI (c := (0 : Int32)) rfl (by decide +kernel) (fl_bo rfl) ?_
      have e0 : (c2_faultsOfPack_j59_0 f) = (0 : Int32) := by simp only [c2_faultsOfPack_j59_0, if_neg h4]
      rw [e0] at hJ
      exact hJ
  refine hj119 ?_
  show fl_Tq _ 69 67 [some (.inr (.inr (.inl (49, 181)))), some (.inr (.inr (.inl (52, 184)))), some (.inl (c2_faultsOfPack_j13_0 f)), some (.inl (c2_faultsOfPack_j36_0 f))] [.inl (c2_faultsOfPack_j59_0 f), .inr (.inr (.inl (58, 190))), .inl (c2_faultsOfPack_j36_0 f)] (f, l) _
  refine fl_Tq.cal rfl rfl (fl_bo rfl) rfl ?_
  refine c2_leakBit_q  ?_
  show fl_Tq _ 69 70 [some (.inr (.inr (.inl (49, 181)))), some (.inr (.inr (.inl (52, 184)))), some (.inl (c2_faultsOfPack_j13_0 f)), some (.inl (c2_faultsOfPack_j36_0 f))] [.inl (c2_leakBit_v f (c2_faultsOfPack_j59_0 f)), .inl (c2_faultsOfPack_j36_0 f)] (c2_leakBit_m f (c2_faultsOfPack_j59_0 f), l) _
  refine fl_Tq.stp (pc' := 71) (lv' := [some (.inr (.inr (.inl (49, 181)))), some (.inr (.inr (.inl (52, 184)))), some (.inl (c2_faultsOfPack_j13_0 f)), some (.inl (c2_faultsOfPack_j36_0 f))]) (st' := [.inl ((c2_faultsOfPack_j36_0 f) ||| (c2_leakBit_v f (c2_faultsOfPack_j59_0 f)))]) (m' := (c2_leakBit_m f (c2_faultsOfPack_j59_0 f), l)) rfl rfl (fl_bo rfl) rfl ?_
  refine fl_Tq.stp (pc' := 72) (lv' := [some (.inr (.inr (.inl (49, 181)))), some (.inr (.inr (.inl (52, 184)))), some (.inl (c2_faultsOfPack_j13_0 f)), some (.inl ((c2_faultsOfPack_j36_0 f) ||| (c2_leakBit_v f (c2_faultsOfPack_j59_0 f))))]) (st' := []) (m' := (c2_leakBit_m f (c2_faultsOfPack_j59_0 f), l)) rfl rfl (fl_bo rfl) rfl ?_
  refine fl_Tq.stp (pc' := 73) (lv' := [some (.inr (.inr (.inl (49, 181)))), some (.inr (.inr (.inl (52, 184)))), some (.inl (c2_faultsOfPack_j13_0 f)), some (.inl ((c2_faultsOfPack_j36_0 f) ||| (c2_leakBit_v f (c2_faultsOfPack_j59_0 f))))]) (st' := [.inl ((c2_faultsOfPack_j36_0 f) ||| (c2_leakBit_v f (c2_faultsOfPack_j59_0 f)))]) (m' := (c2_leakBit_m f (c2_faultsOfPack_j59_0 f), l)) rfl rfl (fl_bo rfl) rfl ?_
  refine fl_Tq.stp (pc' := 74) (lv' := [some (.inr (.inr (.inl (49, 181)))), some (.inr (.inr (.inl (52, 184)))), some (.inl (c2_faultsOfPack_j13_0 f)), some (.inl ((c2_faultsOfPack_j36_0 f) ||| (c2_leakBit_v f (c2_faultsOfPack_j59_0 f))))]) (st' := [.inr (.inr (.inl (49, 181))), .inl ((c2_faultsOfPack_j36_0 f) ||| (c2_leakBit_v f (c2_faultsOfPack_j59_0 f)))]) (m' := (c2_leakBit_m f (c2_faultsOfPack_j59_0 f), l)) rfl rfl (fl_bo rfl) rfl ?_
  refine fl_Tq.cal rfl rfl (fl_bo rfl) rfl ?_
  refine c2_partSpread_q (by simp only [c2_leakBit_fr (by decide : 181 ≠ 190)]; exact hc) ?_
  show fl_Tq _ 69 77 [some (.inr (.inr (.inl (49, 181)))), some (.inr (.inr (.inl (52, 184)))), some (.inl (c2_faultsOfPack_j13_0 f)), some (.inl ((c2_faultsOfPack_j36_0 f) ||| (c2_leakBit_v f (c2_faultsOfPack_j59_0 f))))] [.inl (c2_partSpread_v (c2_leakBit_m f (c2_faultsOfPack_j59_0 f))), .inl ((c2_faultsOfPack_j36_0 f) ||| (c2_leakBit_v f (c2_faultsOfPack_j59_0 f)))] (c2_leakBit_m f (c2_faultsOfPack_j59_0 f), l) _
  refine fl_Tq.stp (pc' := 78) (lv' := [some (.inr (.inr (.inl (49, 181)))), some (.inr (.inr (.inl (52, 184)))), some (.inl (c2_faultsOfPack_j13_0 f)), some (.inl ((c2_faultsOfPack_j36_0 f) ||| (c2_leakBit_v f (c2_faultsOfPack_j59_0 f))))]) (st' := [.inr (.inr (.inl (52, 184))), .inl (c2_partSpread_v (c2_leakBit_m f (c2_faultsOfPack_j59_0 f))), .inl ((c2_faultsOfPack_j36_0 f) ||| (c2_leakBit_v f (c2_faultsOfPack_j59_0 f)))]) (m' := (c2_leakBit_m f (c2_faultsOfPack_j59_0 f), l)) rfl rfl (fl_bo rfl) rfl ?_
  refine fl_Tq.cB (c := (17 : Int32)) rfl (by decide +kernel) (fl_bo rfl) ?_
  refine fl_Tq.ldV (p := 184) (τ := 52) (n := 30) (z := (0, 0, 0)) (k := 17) (v := f 184 17) rfl (fl_bo rfl) rfl (by decide +kernel) (by decide) (by simp only [c2_leakBit_fr (by decide : 184 ≠ 190)]) ?_
  have hj120 : fl_Tq (pw_P L xs) 69 91 [some (.inr (.inr (.inl (49, 181)))), some (.inr (.inr (.inl (52, 184)))), some (.inl (c2_faultsOfPack_j13_0 f)), some (.inl ((c2_faultsOfPack_j36_0 f) ||| (c2_leakBit_v f (c2_faultsOfPack_j59_0 f))))] [.inl (c2_faultsOfPack_j81_0 f), .inl ((c2_faultsOfPack_j36_0 f) ||| (c2_leakBit_v f (c2_faultsOfPack_j59_0 f)))] (c2_leakBit_m f (c2_faultsOfPack_j59_0 f), l) Q → fl_Tq (pw_P L xs) 69 81 [some (.inr (.inr (.inl (49, 181)))), some (.inr (.inr (.inl (52, 184)))), some (.inl (c2_faultsOfPack_j13_0 f)), some (.inl ((c2_faultsOfPack_j36_0 f) ||| (c2_leakBit_v f (c2_faultsOfPack_j59_0 f))))] [.inl (f 184 17), .inl (c2_partSpread_v (c2_leakBit_m f (c2_faultsOfPack_j59_0 f))), .inl ((c2_faultsOfPack_j36_0 f) ||| (c2_leakBit_v f (c2_faultsOfPack_j59_0 f)))] (c2_leakBit_m f (c2_faultsOfPack_j59_0 f), l) Q := by
    intro hJ
    by_cases h5 : (f 184 17).toInt < (c2_partSpread_v (c2_leakBit_m f (c2_faultsOfPack_j59_0 f))).toInt
    · refine fl_Tq.jf rfl (fl_bo rfl) (c2_le_f h5) rfl ?_
      refine fl_Tq.cS (c := (128 : Int32)) rfl (by decide +kernel) (fl_bo rfl) ?_
      refine fl_Tq.stp (pc' := 91) (lv' := [some (.inr (.inr (.inl (49, 181)))), some (.inr (.inr (.inl (52, 184)))), some (.inl (c2_faultsOfPack_j13_0 f)), some (.inl ((c2_faultsOfPack_j36_0 f) ||| (c2_leakBit_v f (c2_faultsOfPack_j59_0 f))))]) (st' := [.inl (128 : Int32), .inl ((c2_faultsOfPack_j36_0 f) ||| (c2_leakBit_v f (c2_faultsOfPack_j59_0 f)))]) (m' := (c2_leakBit_m f (c2_faultsOfPack_j59_0 f), l)) rfl rfl (fl_bo rfl) rfl ?_
      have e0 : (c2_faultsOfPack_j81_0 f) = (128 : Int32) := by simp only [c2_faultsOfPack_j81_0, if_pos h5]
      rw [e0] at hJ
      exact hJ
    · refine fl_Tq.jt rfl (fl_bo rfl) (c2_le_t h5) rfl ?_
      refine fl_Tq.cI (c := (0 : Int32)) rfl (by decide +kernel) (fl_bo rfl) ?_
      have e0 : (c2_faultsOfPack_j81_0 f) = (0 : Int32) := by simp only [c2_faultsOfPack_j81_0, if_neg h5]
      rw [e0] at hJ
      exact hJ
  refine hj120 ?_
  show fl_Tq _ 69 91 [some (.inr (.inr (.inl (49, 181)))), some (.inr (.inr (.inl (52, 184)))), some (.inl (c2_faultsOfPack_j13_0 f)), some (.inl ((c2_faultsOfPack_j36_0 f) ||| (c2_leakBit_v f (c2_faultsOfPack_j59_0 f))))] [.inl (c2_faultsOfPack_j81_0 f), .inl ((c2_faultsOfPack_j36_0 f) ||| (c2_leakBit_v f (c2_faultsOfPack_j59_0 f)))] (c2_leakBit_m f (c2_faultsOfPack_j59_0 f), l) _
  refine fl_Tq.stp (pc' := 92) (lv' := [some (.inr (.inr (.inl (49, 181)))), some (.inr (.inr (.inl (52, 184)))), some (.inl (c2_faultsOfPack_j13_0 f)), some (.inl ((c2_faultsOfPack_j36_0 f) ||| (c2_leakBit_v f (c2_faultsOfPack_j59_0 f))))]) (st' := [.inl (((c2_faultsOfPack_j36_0 f) ||| (c2_leakBit_v f (c2_faultsOfPack_j59_0 f))) ||| (c2_faultsOfPack_j81_0 f))]) (m' := (c2_leakBit_m f (c2_faultsOfPack_j59_0 f), l)) rfl rfl (fl_bo rfl) rfl ?_
  refine fl_Tq.stp (pc' := 93) (lv' := [some (.inr (.inr (.inl (49, 181)))), some (.inr (.inr (.inl (52, 184)))), some (.inl (c2_faultsOfPack_j13_0 f)), some (.inl (((c2_faultsOfPack_j36_0 f) ||| (c2_leakBit_v f (c2_faultsOfPack_j59_0 f))) ||| (c2_faultsOfPack_j81_0 f)))]) (st' := []) (m' := (c2_leakBit_m f (c2_faultsOfPack_j59_0 f), l)) rfl rfl (fl_bo rfl) rfl ?_
  refine fl_Tq.stp (pc' := 94) (lv' := [some (.inr (.inr (.inl (49, 181)))), some (.inr (.inr (.inl (52, 184)))), some (.inl (c2_faultsOfPack_j13_0 f)), some (.inl (((c2_faultsOfPack_j36_0 f) ||| (c2_leakBit_v f (c2_faultsOfPack_j59_0 f))) ||| (c2_faultsOfPack_j81_0 f)))]) (st' := [.inl (((c2_faultsOfPack_j36_0 f) ||| (c2_leakBit_v f (c2_faultsOfPack_j59_0 f))) ||| (c2_faultsOfPack_j81_0 f))]) (m' := (c2_leakBit_m f (c2_faultsOfPack_j59_0 f), l)) rfl rfl (fl_bo rfl) rfl ?_
  refine fl_Tq.stp (pc' := 95) (lv' := [some (.inr (.inr (.inl (49, 181)))), some (.inr (.inr (.inl (52, 184)))), some (.inl (c2_faultsOfPack_j13_0 f)), some (.inl (((c2_faultsOfPack_j36_0 f) ||| (c2_leakBit_v f (c2_faultsOfPack_j59_0 f))) ||| (c2_faultsOfPack_j81_0 f)))]) (st' := [.inr (.inr (.inl (49, 181))), .inl (((c2_faultsOfPack_j36_0 f) ||| (c2_leakBit_v f (c2_faultsOfPack_j59_0 f))) ||| (c2_faultsOfPack_j81_0 f))]) (m' := (c2_leakBit_m f (c2_faultsOfPack_j59_0 f), l)) rfl rfl (fl_bo rfl) rfl ?_
  refine fl_Tq.stp (pc' := 98) (lv' := [some (.inr (.inr (.inl (49, 181)))), some (.inr (.inr (.inl (52, 184)))), some (.inl (c2_faultsOfPack_j13_0 f)), some (.inl (((c2_faultsOfPack_j36_0 f) ||| (c2_leakBit_v f (c2_faultsOfPack_j59_0 f))) ||| (c2_faultsOfPack_j81_0 f)))]) (st' := [.inr (.inr (.inl (58, 190))), .inl (((c2_faultsOfPack_j36_0 f) ||| (c2_leakBit_v f (c2_faultsOfPack_j59_0 f))) ||| (c2_faultsOfPack_j81_0 f))]) (m' := (c2_leakBit_m f (c2_faultsOfPack_j59_0 f), l)) rfl rfl (fl_bo rfl) rfl ?_
  refine fl_Tq.stp (pc' := 99) (lv' := [some (.inr (.inr (.inl (49, 181)))), some (.inr (.inr (.inl (52, 184)))), some (.inl (c2_faultsOfPack_j13_0 f)), some (.inl (((c2_faultsOfPack_j36_0 f) ||| (c2_leakBit_v f (c2_faultsOfPack_j59_0 f))) ||| (c2_faultsOfPack_j81_0 f)))]) (st' := [.inr (.inr (.inl (49, 181))), .inr (.inr (.inl (58, 190))), .inl (((c2_faultsOfPack_j36_0 f) ||| (c2_leakBit_v f (c2_faultsOfPack_j59_0 f))) ||| (c2_faultsOfPack_j81_0 f))]) (m' := (c2_leakBit_m f (c2_faultsOfPack_j59_0 f), l)) rfl rfl (fl_bo rfl) rfl ?_
  refine fl_Tq.cal rfl rfl (fl_bo rfl) rfl ?_
  refine c2_actualBits_q  ?_
  show fl_Tq _ 69 102 [some (.inr (.inr (.inl (49, 181)))), some (.inr (.inr (.inl (52, 184)))), some (.inl (c2_faultsOfPack_j13_0 f)), some (.inl (((c2_faultsOfPack_j36_0 f) ||| (c2_leakBit_v f (c2_faultsOfPack_j59_0 f))) ||| (c2_faultsOfPack_j81_0 f)))] [.inl (c2_actualBits_v (c2_leakBit_m f (c2_faultsOfPack_j59_0 f))), .inr (.inr (.inl (58, 190))), .inl (((c2_faultsOfPack_j36_0 f) ||| (c2_leakBit_v f (c2_faultsOfPack_j59_0 f))) ||| (c2_faultsOfPack_j81_0 f))] (c2_leakBit_m f (c2_faultsOfPack_j59_0 f), l) _
  refine fl_Tq.stp (pc' := 103) (lv' := [some (.inr (.inr (.inl (49, 181)))), some (.inr (.inr (.inl (52, 184)))), some (.inl (c2_faultsOfPack_j13_0 f)), some (.inl (((c2_faultsOfPack_j36_0 f) ||| (c2_leakBit_v f (c2_faultsOfPack_j59_0 f))) ||| (c2_faultsOfPack_j81_0 f)))]) (st' := [.inr (.inr (.inl (49, 181))), .inl (c2_actualBits_v (c2_leakBit_m f (c2_faultsOfPack_j59_0 f))), .inr (.inr (.inl (58, 190))), .inl (((c2_faultsOfPack_j36_0 f) ||| (c2_leakBit_v f (c2_faultsOfPack_j59_0 f))) ||| (c2_faultsOfPack_j81_0 f))]) (m' := (c2_leakBit_m f (c2_faultsOfPack_j59_0 f), l)) rfl rfl (fl_bo rfl) rfl ?_
  refine fl_Tq.cal rfl rfl (fl_bo rfl) rfl ?_
  refine c2_orderedBits_q  ?_
  show fl_Tq _ 69 106 [some (.inr (.inr (.inl (49, 181)))), some (.inr (.inr (.inl (52, 184)))), some (.inl (c2_faultsOfPack_j13_0 f)), some (.inl (((c2_faultsOfPack_j36_0 f) ||| (c2_leakBit_v f (c2_faultsOfPack_j59_0 f))) ||| (c2_faultsOfPack_j81_0 f)))] [.inl (c2_orderedBits_v (c2_leakBit_m f (c2_faultsOfPack_j59_0 f))), .inl (c2_actualBits_v (c2_leakBit_m f (c2_faultsOfPack_j59_0 f))), .inr (.inr (.inl (58, 190))), .inl (((c2_faultsOfPack_j36_0 f) ||| (c2_leakBit_v f (c2_faultsOfPack_j59_0 f))) ||| (c2_faultsOfPack_j81_0 f))] (c2_leakBit_m f (c2_faultsOfPack_j59_0 f), l) _
  by_cases h6 : (c2_actualBits_v (c2_leakBit_m f (c2_faultsOfPack_j59_0 f))).toInt = (c2_orderedBits_v (c2_leakBit_m f (c2_faultsOfPack_j59_0 f))).toInt
  · refine fl_Tq.jt rfl (fl_bo rfl) (c2_eq_t h6) rfl ?_
    refine fl_Tq.cI (c := (0 : Int32)) rfl (by decide +kernel) (fl_bo rfl) ?_
    refine fl_Tq.cal rfl rfl (fl_bo rfl) rfl ?_
    refine c2_weldBit0_q  ?_
    show fl_Tq _ 69 117 [some (.inr (.inr (.inl (49, 181)))), some (.inr (.inr (.inl (52, 184)))), some (.inl (c2_faultsOfPack_j13_0 f)), some (.inl (((c2_faultsOfPack_j36_0 f) ||| (c2_leakBit_v f (c2_faultsOfPack_j59_0 f))) ||| (c2_faultsOfPack_j81_0 f)))] [.inl c2_weldBit0_v, .inl (((c2_faultsOfPack_j36_0 f) ||| (c2_leakBit_v f (c2_faultsOfPack_j59_0 f))) ||| (c2_faultsOfPack_j81_0 f))] (c2_weldBit0_m (c2_leakBit_m f (c2_faultsOfPack_j59_0 f)), l) _
    refine fl_Tq.stp (pc' := 118) (lv' := [some (.inr (.inr (.inl (49, 181)))), some (.inr (.inr (.inl (52, 184)))), some (.inl (c2_faultsOfPack_j13_0 f)), some (.inl (((c2_faultsOfPack_j36_0 f) ||| (c2_leakBit_v f (c2_faultsOfPack_j59_0 f))) ||| (c2_faultsOfPack_j81_0 f)))]) (st' := [.inl ((((c2_faultsOfPack_j36_0 f) ||| (c2_leakBit_v f (c2_faultsOfPack_j59_0 f))) ||| (c2_faultsOfPack_j81_0 f)) ||| c2_weldBit0_v)]) (m' := (c2_weldBit0_m (c2_leakBit_m f (c2_faultsOfPack_j59_0 f)), l)) rfl rfl (fl_bo rfl) rfl ?_
    refine fl_Tq.stp (pc' := 119) (lv' := [some (.inr (.inr (.inl (49, 181)))), some (.inr (.inr (.inl (52, 184)))), some (.inl (c2_faultsOfPack_j13_0 f)), some (.inl ((((c2_faultsOfPack_j36_0 f) ||| (c2_leakBit_v f (c2_faultsOfPack_j59_0 f))) ||| (c2_faultsOfPack_j81_0 f)) ||| c2_weldBit0_v))]) (st' := []) (m' := (c2_weldBit0_m (c2_leakBit_m f (c2_faultsOfPack_j59_0 f)), l)) rfl rfl (fl_bo rfl) rfl ?_
    refine fl_Tq.stp (pc' := 120) (lv' := [some (.inr (.inr (.inl (49, 181)))), some (.inr (.inr (.inl (52, 184)))), some (.inl (c2_faultsOfPack_j13_0 f)), some (.inl ((((c2_faultsOfPack_j36_0 f) ||| (c2_leakBit_v f (c2_faultsOfPack_j59_0 f))) ||| (c2_faultsOfPack_j81_0 f)) ||| c2_weldBit0_v))]) (st' := [.inl ((((c2_faultsOfPack_j36_0 f) ||| (c2_leakBit_v f (c2_faultsOfPack_j59_0 f))) ||| (c2_faultsOfPack_j81_0 f)) ||| c2_weldBit0_v)]) (m' := (c2_weldBit0_m (c2_leakBit_m f (c2_faultsOfPack_j59_0 f)), l)) rfl rfl (fl_bo rfl) rfl ?_
    refine fl_Tq.stp (pc' := 121) (lv' := [some (.inr (.inr (.inl (49, 181)))), some (.inr (.inr (.inl (52, 184)))), some (.inl (c2_faultsOfPack_j13_0 f)), some (.inl ((((c2_faultsOfPack_j36_0 f) ||| (c2_leakBit_v f (c2_faultsOfPack_j59_0 f))) ||| (c2_faultsOfPack_j81_0 f)) ||| c2_weldBit0_v))]) (st' := [.inr (.inr (.inl (49, 181))), .inl ((((c2_faultsOfPack_j36_0 f) ||| (c2_leakBit_v f (c2_faultsOfPack_j59_0 f))) ||| (c2_faultsOfPack_j81_0 f)) ||| c2_weldBit0_v)]) (m' := (c2_weldBit0_m (c2_leakBit_m f (c2_faultsOfPack_j59_0 f)), l)) rfl rfl (fl_bo rfl) rfl ?_
    refine fl_Tq.stp (pc' := 124) (lv' := [some (.inr (.inr (.inl (49, 181)))), some (.inr (.inr (.inl (52, 184)))), some (.inl (c2_faultsOfPack_j13_0 f)), some (.inl ((((c2_faultsOfPack_j36_0 f) ||| (c2_leakBit_v f (c2_faultsOfPack_j59_0 f))) ||| (c2_faultsOfPack_j81_0 f)) ||| c2_weldBit0_v))]) (st' := [.inr (.inr (.inl (58, 190))), .inl ((((c2_faultsOfPack_j36_0 f) ||| (c2_leakBit_v f (c2_faultsOfPack_j59_0 f))) ||| (c2_faultsOfPack_j81_0 f)) ||| c2_weldBit0_v)]) (m' := (c2_weldBit0_m (c2_leakBit_m f (c2_faultsOfPack_j59_0 f)), l)) rfl rfl (fl_bo rfl) rfl ?_
    refine fl_Tq.stp (pc' := 125) (lv' := [some (.inr (.inr (.inl (49, 181)))), some (.inr (.inr (.inl (52, 184)))), some (.inl (c2_faultsOfPack_j13_0 f)), some (.inl ((((c2_faultsOfPack_j36_0 f) ||| (c2_leakBit_v f (c2_faultsOfPack_j59_0 f))) ||| (c2_faultsOfPack_j81_0 f)) ||| c2_weldBit0_v))]) (st' := [.inr (.inr (.inl (52, 184))), .inr (.inr (.inl (58, 190))), .inl ((((c2_faultsOfPack_j36_0 f) ||| (c2_leakBit_v f (c2_faultsOfPack_j59_0 f))) ||| (c2_faultsOfPack_j81_0 f)) ||| c2_weldBit0_v)]) (m' := (c2_weldBit0_m (c2_leakBit_m f (c2_faultsOfPack_j59_0 f)), l)) rfl rfl (fl_bo rfl) rfl ?_
    refine fl_Tq.cB (c := (28 : Int32)) rfl (by decide +kernel) (fl_bo rfl) ?_
    refine fl_Tq.ldV (p := 184) (τ := 52) (n := 30) (z := (0, 0, 0)) (k := 28) (v := f 184 28) rfl (fl_bo rfl) rfl (by decide +kernel) (by decide) (by simp only [c2_weldBit0_fr (by decide : 184 ≠ 190), c2_leakBit_fr (by decide : 184 ≠ 190)]) ?_
    refine fl_Tq.cal rfl rfl (fl_bo rfl) rfl ?_
    refine c2_silentBit_q  ?_
    show fl_Tq _ 69 131 [some (.inr (.inr (.inl (49, 181)))), some (.inr (.inr (.inl (52, 184)))), some (.inl (c2_faultsOfPack_j13_0 f)), some (.inl ((((c2_faultsOfPack_j36_0 f) ||| (c2_leakBit_v f (c2_faultsOfPack_j59_0 f))) ||| (c2_faultsOfPack_j81_0 f)) ||| c2_weldBit0_v))] [.inl (c2_silentBit_v (c2_weldBit0_m (c2_leakBit_m f (c2_faultsOfPack_j59_0 f))) (f 184 28)), .inl ((((c2_faultsOfPack_j36_0 f) ||| (c2_leakBit_v f (c2_faultsOfPack_j59_0 f))) ||| (c2_faultsOfPack_j81_0 f)) ||| c2_weldBit0_v)] (c2_silentBit_m (c2_weldBit0_m (c2_leakBit_m f (c2_faultsOfPack_j59_0 f))) (f 184 28), l) _
    refine fl_Tq.stp (pc' := 132) (lv' := [some (.inr (.inr (.inl (49, 181)))), some (.inr (.inr (.inl (52, 184)))), some (.inl (c2_faultsOfPack_j13_0 f)), some (.inl ((((c2_faultsOfPack_j36_0 f) ||| (c2_leakBit_v f (c2_faultsOfPack_j59_0 f))) ||| (c2_faultsOfPack_j81_0 f)) ||| c2_weldBit0_v))]) (st' := [.inl (((((c2_faultsOfPack_j36_0 f) ||| (c2_leakBit_v f (c2_faultsOfPack_j59_0 f))) ||| (c2_faultsOfPack_j81_0 f)) ||| c2_weldBit0_v) ||| (c2_silentBit_v (c2_weldBit0_m (c2_leakBit_m f (c2_faultsOfPack_j59_0 f))) (f 184 28)))]) (m' := (c2_silentBit_m (c2_weldBit0_m (c2_leakBit_m f (c2_faultsOfPack_j59_0 f))) (f 184 28), l)) rfl rfl (fl_bo rfl) rfl ?_
    refine fl_Tq.stp (pc' := 133) (lv' := [some (.inr (.inr (.inl (49, 181)))), some (.inr (.inr (.inl (52, 184)))), some (.inl (c2_faultsOfPack_j13_0 f)), some (.inl (((((c2_faultsOfPack_j36_0 f) ||| (c2_leakBit_v f (c2_faultsOfPack_j59_0 f))) ||| (c2_faultsOfPack_j81_0 f)) ||| c2_weldBit0_v) ||| (c2_silentBit_v (c2_weldBit0_m (c2_leakBit_m f (c2_faultsOfPack_j59_0 f))) (f 184 28))))]) (st' := []) (m' := (c2_silentBit_m (c2_weldBit0_m (c2_leakBit_m f (c2_faultsOfPack_j59_0 f))) (f 184 28), l)) rfl rfl (fl_bo rfl) rfl ?_
    refine fl_Tq.stp (pc' := 134) (lv' := [some (.inr (.inr (.inl (49, 181)))), some (.inr (.inr (.inl (52, 184)))), some (.inl (c2_faultsOfPack_j13_0 f)), some (.inl (((((c2_faultsOfPack_j36_0 f) ||| (c2_leakBit_v f (c2_faultsOfPack_j59_0 f))) ||| (c2_faultsOfPack_j81_0 f)) ||| c2_weldBit0_v) ||| (c2_silentBit_v (c2_weldBit0_m (c2_leakBit_m f (c2_faultsOfPack_j59_0 f))) (f 184 28))))]) (st' := [.inl (((((c2_faultsOfPack_j36_0 f) ||| (c2_leakBit_v f (c2_faultsOfPack_j59_0 f))) ||| (c2_faultsOfPack_j81_0 f)) ||| c2_weldBit0_v) ||| (c2_silentBit_v (c2_weldBit0_m (c2_leakBit_m f (c2_faultsOfPack_j59_0 f))) (f 184 28)))]) (m' := (c2_silentBit_m (c2_weldBit0_m (c2_leakBit_m f (c2_faultsOfPack_j59_0 f))) (f 184 28), l)) rfl rfl (fl_bo rfl) rfl ?_
    refine fl_Tq.stp (pc' := 135) (lv' := [some (.inr (.inr (.inl (49, 181)))), some (.inr (.inr (.inl (52, 184)))), some (.inl (c2_faultsOfPack_j13_0 f)), some (.inl (((((c2_faultsOfPack_j36_0 f) ||| (c2_leakBit_v f (c2_faultsOfPack_j59_0 f))) ||| (c2_faultsOfPack_j81_0 f)) ||| c2_weldBit0_v) ||| (c2_silentBit_v (c2_weldBit0_m (c2_leakBit_m f (c2_faultsOfPack_j59_0 f))) (f 184 28))))]) (st' := [.inr (.inr (.inl (52, 184))), .inl (((((c2_faultsOfPack_j36_0 f) ||| (c2_leakBit_v f (c2_faultsOfPack_j59_0 f))) ||| (c2_faultsOfPack_j81_0 f)) ||| c2_weldBit0_v) ||| (c2_silentBit_v (c2_weldBit0_m (c2_leakBit_m f (c2_faultsOfPack_j59_0 f))) (f 184 28)))]) (m' := (c2_silentBit_m (c2_weldBit0_m (c2_leakBit_m f (c2_faultsOfPack_j59_0 f))) (f 184 28), l)) rfl rfl (fl_bo rfl) rfl ?_
    refine fl_Tq.cB (c := (29 : Int32)) rfl (by decide +kernel) (fl_bo rfl) ?_
    refine fl_Tq.ldV (p := 184) (τ := 52) (n := 30) (z := (0, 0, 0)) (k := 29) (v := f 184 29) rfl (fl_bo rfl) rfl (by decide +kernel) (by decide) (by simp only [c2_silentBit_fr (by decide : 184 ≠ 190), c2_weldBit0_fr (by decide : 184 ≠ 190), c2_leakBit_fr (by decide : 184 ≠ 190)]) ?_
    have hj121 : fl_Tq (pw_P L xs) 69 148 [some (.inr (.inr (.inl (49, 181)))), some (.inr (.inr (.inl (52, 184)))), some (.inl (c2_faultsOfPack_j13_0 f)), some (.inl (((((c2_faultsOfPack_j36_0 f) ||| (c2_leakBit_v f (c2_faultsOfPack_j59_0 f))) ||| (c2_faultsOfPack_j81_0 f)) ||| c2_weldBit0_v) ||| (c2_silentBit_v (c2_weldBit0_m (c2_leakBit_m f (c2_faultsOfPack_j59_0 f))) (f 184 28))))] [.inl (c2_faultsOfPack_j138_0 f), .inl (((((c2_faultsOfPack_j36_0 f) ||| (c2_leakBit_v f (c2_faultsOfPack_j59_0 f))) ||| (c2_faultsOfPack_j81_0 f)) ||| c2_weldBit0_v) ||| (c2_silentBit_v (c2_weldBit0_m (c2_leakBit_m f (c2_faultsOfPack_j59_0 f))) (f 184 28)))] (c2_silentBit_m (c2_weldBit0_m (c2_leakBit_m f (c2_faultsOfPack_j59_0 f))) (f 184 28), l) Q → fl_Tq (pw_P L xs) 69 138 [some (.inr (.inr (.inl (49, 181)))), some (.inr (.inr (.inl (52, 184)))), some (.inl (c2_faultsOfPack_j13_0 f)), some (.inl (((((c2_faultsOfPack_j36_0 f) ||| (c2_leakBit_v f (c2_faultsOfPack_j59_0 f))) ||| (c2_faultsOfPack_j81_0 f)) ||| c2_weldBit0_v) ||| (c2_silentBit_v (c2_weldBit0_m (c2_leakBit_m f (c2_faultsOfPack_j59_0 f))) (f 184 28))))] [.inl (f 184 29), .inl (((((c2_faultsOfPack_j36_0 f) ||| (c2_leakBit_v f (c2_faultsOfPack_j59_0 f))) ||| (c2_faultsOfPack_j81_0 f)) ||| c2_weldBit0_v) ||| (c2_silentBit_v (c2_weldBit0_m (c2_leakBit_m f (c2_faultsOfPack_j59_0 f))) (f 184 28)))] (c2_silentBit_m (c2_weldBit0_m (c2_leakBit_m f (c2_faultsOfPack_j59_0 f))) (f 184 28), l) Q := by
      intro hJ
      by_cases h7 : (f 184 29).toInt = 0
      · refine fl_Tq.zf rfl (fl_bo rfl) (c1_ne_f h7) rfl ?_
        refine fl_Tq.cS (c := (1024 : Int32)) rfl (by decide +kernel) (fl_bo rfl) ?_
        refine fl_Tq.stp (pc' := 148) (lv' := [some (.inr (.inr (.inl (49, 181)))), some (.inr (.inr (.inl (52, 184)))), some (.inl (c2_faultsOfPack_j13_0 f)), some (.inl (((((c2_faultsOfPack_j36_0 f) ||| (c2_leakBit_v f (c2_faultsOfPack_j59_0 f))) ||| (c2_faultsOfPack_j81_0 f)) ||| c2_weldBit0_v) ||| (c2_silentBit_v (c2_weldBit0_m (c2_leakBit_m f (c2_faultsOfPack_j59_0 f))) (f 184 28))))]) (st' := [.inl (1024 : Int32), .inl (((((c2_faultsOfPack_j36_0 f) ||| (c2_leakBit_v f (c2_faultsOfPack_j59_0 f))) ||| (c2_faultsOfPack_j81_0 f)) ||| c2_weldBit0_v) ||| (c2_silentBit_v (c2_weldBit0_m (c2_leakBit_m f (c2_faultsOfPack_j59_0 f))) (f 184 28)))]) (m' := (c2_silentBit_m (c2_weldBit0_m (c2_leakBit_m f (c2_faultsOfPack_j59_0 f))) (f 184 28), l)) rfl rfl (fl_bo rfl) rfl ?_
        have e0 : (c2_faultsOfPack_j138_0 f) = (1024 : Int32) := by simp only [c2_faultsOfPack_j138_0, if_pos h7]
        rw [e0] at hJ
        exact hJ
      · refine fl_Tq.zt rfl (fl_bo rfl) (c1_ne_t h7) rfl ?_
        refine fl_Tq.cI (c := (0 : Int32)) rfl (by decide +kernel) (fl_bo rfl) ?_
        have e0 : (c2_faultsOfPack_j138_0 f) = (0 : Int32) := by simp only [c2_faultsOfPack_j138_0, if_neg h7]
        rw [e0] at hJ
        exact hJ
    refine hj121 ?_
    show fl_Tq _ 69 148 [some (.inr (.inr (.inl (49, 181)))), some (.inr (.inr (.inl (52, 184)))), some (.inl (c2_faultsOfPack_j13_0 f)), some (.inl (((((c2_faultsOfPack_j36_0 f) ||| (c2_leakBit_v f (c2_faultsOfPack_j59_0 f))) ||| (c2_faultsOfPack_j81_0 f)) ||| c2_weldBit0_v) ||| (c2_silentBit_v (c2_weldBit0_m (c2_leakBit_m f (c2_faultsOfPack_j59_0 f))) (f 184 28))))] [.inl (c2_faultsOfPack_j138_0 f), .inl (((((c2_faultsOfPack_j36_0 f) ||| (c2_leakBit_v f (c2_faultsOfPack_j59_0 f))) ||| (c2_faultsOfPack_j81_0 f)) ||| c2_weldBit0_v) ||| (c2_silentBit_v (c2_weldBit0_m (c2_leakBit_m f (c2_faultsOfPack_j59_0 f))) (f 184 28)))] (c2_silentBit_m (c2_weldBit0_m (c2_leakBit_m f (c2_faultsOfPack_j59_0 f))) (f 184 28), l) _
    refine fl_Tq.stp (pc' := 149) (lv' := [some (.inr (.inr (.inl (49, 181)))), some (.inr (.inr (.inl (52, 184)))), some (.inl (c2_faultsOfPack_j13_0 f)), some (.inl (((((c2_faultsOfPack_j36_0 f) ||| (c2_leakBit_v f (c2_faultsOfPack_j59_0 f))) ||| (c2_faultsOfPack_j81_0 f)) ||| c2_weldBit0_v) ||| (c2_silentBit_v (c2_weldBit0_m (c2_leakBit_m f (c2_faultsOfPack_j59_0 f))) (f 184 28))))]) (st' := [.inl ((((((c2_faultsOfPack_j36_0 f) ||| (c2_leakBit_v f (c2_faultsOfPack_j59_0 f))) ||| (c2_faultsOfPack_j81_0 f)) ||| c2_weldBit0_v) ||| (c2_silentBit_v (c2_weldBit0_m (c2_leakBit_m f (c2_faultsOfPack_j59_0 f))) (f 184 28))) ||| (c2_faultsOfPack_j138_0 f))]) (m' := (c2_silentBit_m (c2_weldBit0_m (c2_leakBit_m f (c2_faultsOfPack_j59_0 f))) (f 184 28), l)) rfl rfl (fl_bo rfl) rfl ?_
    refine fl_Tq.stp (pc' := 150) (lv' := [some (.inr (.inr (.inl (49, 181)))), some (.inr (.inr (.inl (52, 184)))), some (.inl (c2_faultsOfPack_j13_0 f)), some (.inl ((((((c2_faultsOfPack_j36_0 f) ||| (c2_leakBit_v f (c2_faultsOfPack_j59_0 f))) ||| (c2_faultsOfPack_j81_0 f)) ||| c2_weldBit0_v) ||| (c2_silentBit_v (c2_weldBit0_m (c2_leakBit_m f (c2_faultsOfPack_j59_0 f))) (f 184 28))) ||| (c2_faultsOfPack_j138_0 f)))]) (st' := []) (m' := (c2_silentBit_m (c2_weldBit0_m (c2_leakBit_m f (c2_faultsOfPack_j59_0 f))) (f 184 28), l)) rfl rfl (fl_bo rfl) rfl ?_
    refine fl_Tq.stp (pc' := 151) (lv' := [some (.inr (.inr (.inl (49, 181)))), some (.inr (.inr (.inl (52, 184)))), some (.inl (c2_faultsOfPack_j13_0 f)), some (.inl ((((((c2_faultsOfPack_j36_0 f) ||| (c2_leakBit_v f (c2_faultsOfPack_j59_0 f))) ||| (c2_faultsOfPack_j81_0 f)) ||| c2_weldBit0_v) ||| (c2_silentBit_v (c2_weldBit0_m (c2_leakBit_m f (c2_faultsOfPack_j59_0 f))) (f 184 28))) ||| (c2_faultsOfPack_j138_0 f)))]) (st' := [.inl ((((((c2_faultsOfPack_j36_0 f) ||| (c2_leakBit_v f (c2_faultsOfPack_j59_0 f))) ||| (c2_faultsOfPack_j81_0 f)) ||| c2_weldBit0_v) ||| (c2_silentBit_v (c2_weldBit0_m (c2_leakBit_m f (c2_faultsOfPack_j59_0 f))) (f 184 28))) ||| (c2_faultsOfPack_j138_0 f))]) (m' := (c2_silentBit_m (c2_weldBit0_m (c2_leakBit_m f (c2_faultsOfPack_j59_0 f))) (f 184 28), l)) rfl rfl (fl_bo rfl) rfl ?_
    refine fl_Tq.ret rfl rfl rfl ?_
    unfold c2_faultsOfPack_v at k
    unfold c2_faultsOfPack_m at k
    simp only [if_pos h6] at k
    exact k
  · refine fl_Tq.jf rfl (fl_bo rfl) (c2_eq_f h6) rfl ?_
    refine fl_Tq.cI (c := (1 : Int32)) rfl (by decide +kernel) (fl_bo rfl) ?_
    refine fl_Tq.stp (pc' := 114) (lv' := [some (.inr (.inr (.inl (49, 181)))), some (.inr (.inr (.inl (52, 184)))), some (.inl (c2_faultsOfPack_j13_0 f)), some (.inl (((c2_faultsOfPack_j36_0 f) ||| (c2_leakBit_v f (c2_faultsOfPack_j59_0 f))) ||| (c2_faultsOfPack_j81_0 f)))]) (st' := [.inl (1 : Int32), .inr (.inr (.inl (58, 190))), .inl (((c2_faultsOfPack_j36_0 f) ||| (c2_leakBit_v f (c2_faultsOfPack_j59_0 f))) ||| (c2_faultsOfPack_j81_0 f))]) (m' := (c2_leakBit_m f (c2_faultsOfPack_j59_0 f), l)) rfl rfl (fl_bo rfl) rfl ?_
    refine fl_Tq.cal rfl rfl (fl_bo rfl) rfl ?_
    refine c2_weldBit1_q  ?_
    show fl_Tq _ 69 117 [some (.inr (.inr (.inl (49, 181)))), some (.inr (.inr (.inl (52, 184)))), some (.inl (c2_faultsOfPack_j13_0 f)), some (.inl (((c2_faultsOfPack_j36_0 f) ||| (c2_leakBit_v f (c2_faultsOfPack_j59_0 f))) ||| (c2_faultsOfPack_j81_0 f)))] [.inl (c2_weldBit1_v (c2_leakBit_m f (c2_faultsOfPack_j59_0 f))), .inl (((c2_faultsOfPack_j36_0 f) ||| (c2_leakBit_v f (c2_faultsOfPack_j59_0 f))) ||| (c2_faultsOfPack_j81_0 f))] (c2_weldBit1_m (c2_leakBit_m f (c2_faultsOfPack_j59_0 f)), l) _
    refine fl_Tq.stp (pc' := 118) (lv' := [some (.inr (.inr (.inl (49, 181)))), some (.inr (.inr (.inl (52, 184)))), some (.inl (c2_faultsOfPack_j13_0 f)), some (.inl (((c2_faultsOfPack_j36_0 f) ||| (c2_leakBit_v f (c2_faultsOfPack_j59_0 f))) ||| (c2_faultsOfPack_j81_0 f)))]) (st' := [.inl ((((c2_faultsOfPack_j36_0 f) ||| (c2_leakBit_v f (c2_faultsOfPack_j59_0 f))) ||| (c2_faultsOfPack_j81_0 f)) ||| (c2_weldBit1_v (c2_leakBit_m f (c2_faultsOfPack_j59_0 f))))]) (m' := (c2_weldBit1_m (c2_leakBit_m f (c2_faultsOfPack_j59_0 f)), l)) rfl rfl (fl_bo rfl) rfl ?_
    refine fl_Tq.stp (pc' := 119) (lv' := [some (.inr (.inr (.inl (49, 181)))), some (.inr (.inr (.inl (52, 184)))), some (.inl (c2_faultsOfPack_j13_0 f)), some (.inl ((((c2_faultsOfPack_j36_0 f) ||| (c2_leakBit_v f (c2_faultsOfPack_j59_0 f))) ||| (c2_faultsOfPack_j81_0 f)) ||| (c2_weldBit1_v (c2_leakBit_m f (c2_faultsOfPack_j59_0 f)))))]) (st' := []) (m' := (c2_weldBit1_m (c2_leakBit_m f (c2_faultsOfPack_j59_0 f)), l)) rfl rfl (fl_bo rfl) rfl ?_
    refine fl_Tq.stp (pc' := 120) (lv' := [some (.inr (.inr (.inl (49, 181)))), some (.inr (.inr (.inl (52, 184)))), some (.inl (c2_faultsOfPack_j13_0 f)), some (.inl ((((c2_faultsOfPack_j36_0 f) ||| (c2_leakBit_v f (c2_faultsOfPack_j59_0 f))) ||| (c2_faultsOfPack_j81_0 f)) ||| (c2_weldBit1_v (c2_leakBit_m f (c2_faultsOfPack_j59_0 f)))))]) (st' := [.inl ((((c2_faultsOfPack_j36_0 f) ||| (c2_leakBit_v f (c2_faultsOfPack_j59_0 f))) ||| (c2_faultsOfPack_j81_0 f)) ||| (c2_weldBit1_v (c2_leakBit_m f (c2_faultsOfPack_j59_0 f))))]) (m' := (c2_weldBit1_m (c2_leakBit_m f (c2_faultsOfPack_j59_0 f)), l)) rfl rfl (fl_bo rfl) rfl ?_
    refine fl_Tq.stp (pc' := 121) (lv' := [some (.inr (.inr (.inl (49, 181)))), some (.inr (.inr (.inl (52, 184)))), some (.inl (c2_faultsOfPack_j13_0 f)), some (.inl ((((c2_faultsOfPack_j36_0 f) ||| (c2_leakBit_v f (c2_faultsOfPack_j59_0 f))) ||| (c2_faultsOfPack_j81_0 f)) ||| (c2_weldBit1_v (c2_leakBit_m f (c2_faultsOfPack_j59_0 f)))))]) (st' := [.inr (.inr (.inl (49, 181))), .inl ((((c2_faultsOfPack_j36_0 f) ||| (c2_leakBit_v f (c2_faultsOfPack_j59_0 f))) ||| (c2_faultsOfPack_j81_0 f)) ||| (c2_weldBit1_v (c2_leakBit_m f (c2_faultsOfPack_j59_0 f))))]) (m' := (c2_weldBit1_m (c2_leakBit_m f (c2_faultsOfPack_j59_0 f)), l)) rfl rfl (fl_bo rfl) rfl ?_
    refine fl_Tq.stp (pc' := 124) (lv' := [some (.inr (.inr (.inl (49, 181)))), some (.inr (.inr (.inl (52, 184)))), some (.inl (c2_faultsOfPack_j13_0 f)), some (.inl ((((c2_faultsOfPack_j36_0 f) ||| (c2_leakBit_v f (c2_faultsOfPack_j59_0 f))) ||| (c2_faultsOfPack_j81_0 f)) ||| (c2_weldBit1_v (c2_leakBit_m f (c2_faultsOfPack_j59_0 f)))))]) (st' := [.inr (.inr (.inl (58, 190))), .inl ((((c2_faultsOfPack_j36_0 f) ||| (c2_leakBit_v f (c2_faultsOfPack_j59_0 f))) ||| (c2_faultsOfPack_j81_0 f)) ||| (c2_weldBit1_v (c2_leakBit_m f (c2_faultsOfPack_j59_0 f))))]) (m' := (c2_weldBit1_m (c2_leakBit_m f (c2_faultsOfPack_j59_0 f)), l)) rfl rfl (fl_bo rfl) rfl ?_
    refine fl_Tq.stp (pc' := 125) (lv' := [some (.inr (.inr (.inl (49, 181)))), some (.inr (.inr (.inl (52, 184)))), some (.inl (c2_faultsOfPack_j13_0 f)), some (.inl ((((c2_faultsOfPack_j36_0 f) ||| (c2_leakBit_v f (c2_faultsOfPack_j59_0 f))) ||| (c2_faultsOfPack_j81_0 f)) ||| (c2_weldBit1_v (c2_leakBit_m f (c2_faultsOfPack_j59_0 f)))))]) (st' := [.inr (.inr (.inl (52, 184))), .inr (.inr (.inl (58, 190))), .inl ((((c2_faultsOfPack_j36_0 f) ||| (c2_leakBit_v f (c2_faultsOfPack_j59_0 f))) ||| (c2_faultsOfPack_j81_0 f)) ||| (c2_weldBit1_v (c2_leakBit_m f (c2_faultsOfPack_j59_0 f))))]) (m' := (c2_weldBit1_m (c2_leakBit_m f (c2_faultsOfPack_j59_0 f)), l)) rfl rfl (fl_bo rfl) rfl ?_
    refine fl_Tq.cB (c := (28 : Int32)) rfl (by decide +kernel) (fl_bo rfl) ?_
    refine fl_Tq.ldV (p := 184) (τ := 52) (n := 30) (z := (0, 0, 0)) (k := 28) (v := f 184 28) rfl (fl_bo rfl) rfl (by decide +kernel) (by decide) (by simp only [c2_weldBit1_fr (by decide : 184 ≠ 190), c2_leakBit_fr (by decide : 184 ≠ 190)]) ?_
    refine fl_Tq.cal rfl rfl (fl_bo rfl) rfl ?_
    refine c2_silentBit_q  ?_
    show fl_Tq _ 69 131 [some (.inr (.inr (.inl (49, 181)))), some (.inr (.inr (.inl (52, 184)))), some (.inl (c2_faultsOfPack_j13_0 f)), some (.inl ((((c2_faultsOfPack_j36_0 f) ||| (c2_leakBit_v f (c2_faultsOfPack_j59_0 f))) ||| (c2_faultsOfPack_j81_0 f)) ||| (c2_weldBit1_v (c2_leakBit_m f (c2_faultsOfPack_j59_0 f)))))] [.inl (c2_silentBit_v (c2_weldBit1_m (c2_leakBit_m f (c2_faultsOfPack_j59_0 f))) (f 184 28)), .inl ((((c2_faultsOfPack_j36_0 f) ||| (c2_leakBit_v f (c2_faultsOfPack_j59_0 f))) ||| (c2_faultsOfPack_j81_0 f)) ||| (c2_weldBit1_v (c2_leakBit_m f (c2_faultsOfPack_j59_0 f))))] (c2_silentBit_m (c2_weldBit1_m (c2_leakBit_m f (c2_faultsOfPack_j59_0 f))) (f 184 28), l) _
    refine fl_Tq.stp (pc' := 132) (lv' := [some (.inr (.inr (.inl (49, 181)))), some (.inr (.inr (.inl (52, 184)))), some (.inl (c2_faultsOfPack_j13_0 f)), some (.inl ((((c2_faultsOfPack_j36_0 f) ||| (c2_leakBit_v f (c2_faultsOfPack_j59_0 f))) ||| (c2_faultsOfPack_j81_0 f)) ||| (c2_weldBit1_v (c2_leakBit_m f (c2_faultsOfPack_j59_0 f)))))]) (st' := [.inl (((((c2_faultsOfPack_j36_0 f) ||| (c2_leakBit_v f (c2_faultsOfPack_j59_0 f))) ||| (c2_faultsOfPack_j81_0 f)) ||| (c2_weldBit1_v (c2_leakBit_m f (c2_faultsOfPack_j59_0 f)))) ||| (c2_silentBit_v (c2_weldBit1_m (c2_leakBit_m f (c2_faultsOfPack_j59_0 f))) (f 184 28)))]) (m' := (c2_silentBit_m (c2_weldBit1_m (c2_leakBit_m f (c2_faultsOfPack_j59_0 f))) (f 184 28), l)) rfl rfl (fl_bo rfl) rfl ?_
    refine fl_Tq.stp (pc' := 133) (lv' := [some (.inr (.inr (.inl (49, 181)))), some (.inr (.inr (.inl (52, 184)))), some (.inl (c2_faultsOfPack_j13_0 f)), some (.inl (((((c2_faultsOfPack_j36_0 f) ||| (c2_leakBit_v f (c2_faultsOfPack_j59_0 f))) ||| (c2_faultsOfPack_j81_0 f)) ||| (c2_weldBit1_v (c2_leakBit_m f (c2_faultsOfPack_j59_0 f)))) ||| (c2_silentBit_v (c2_weldBit1_m (c2_leakBit_m f (c2_faultsOfPack_j59_0 f))) (f 184 28))))]) (st' := []) (m' := (c2_silentBit_m (c2_weldBit1_m (c2_leakBit_m f (c2_faultsOfPack_j59_0 f))) (f 184 28), l)) rfl rfl (fl_bo rfl) rfl ?_
    refine fl_Tq.stp (pc' := 134) (lv' := [some (.inr (.inr (.inl (49, 181)))), some (.inr (.inr (.inl (52, 184)))), some (.inl (c2_faultsOfPack_j13_0 f)), some (.inl (((((c2_faultsOfPack_j36_0 f) ||| (c2_leakBit_v f (c2_faultsOfPack_j59_0 f))) ||| (c2_faultsOfPack_j81_0 f)) ||| (c2_weldBit1_v (c2_leakBit_m f (c2_faultsOfPack_j59_0 f)))) ||| (c2_silentBit_v (c2_weldBit1_m (c2_leakBit_m f (c2_faultsOfPack_j59_0 f))) (f 184 28))))]) (st' := [.inl (((((c2_faultsOfPack_j36_0 f) ||| (c2_leakBit_v f (c2_faultsOfPack_j59_0 f))) ||| (c2_faultsOfPack_j81_0 f)) ||| (c2_weldBit1_v (c2_leakBit_m f (c2_faultsOfPack_j59_0 f)))) ||| (c2_silentBit_v (c2_weldBit1_m (c2_leakBit_m f (c2_faultsOfPack_j59_0 f))) (f 184 28)))]) (m' := (c2_silentBit_m (c2_weldBit1_m (c2_leakBit_m f (c2_faultsOfPack_j59_0 f))) (f 184 28), l)) rfl rfl (fl_bo rfl) rfl ?_
    refine fl_Tq.stp (pc' := 135) (lv' := [some (.inr (.inr (.inl (49, 181)))), some (.inr (.inr (.inl (52, 184)))), some (.inl (c2_faultsOfPack_j13_0 f)), some (.inl (((((c2_faultsOfPack_j36_0 f) ||| (c2_leakBit_v f (c2_faultsOfPack_j59_0 f))) ||| (c2_faultsOfPack_j81_0 f)) ||| (c2_weldBit1_v (c2_leakBit_m f (c2_faultsOfPack_j59_0 f)))) ||| (c2_silentBit_v (c2_weldBit1_m (c2_leakBit_m f (c2_faultsOfPack_j59_0 f))) (f 184 28))))]) (st' := [.inr (.inr (.inl (52, 184))), .inl (((((c2_faultsOfPack_j36_0 f) ||| (c2_leakBit_v f (c2_faultsOfPack_j59_0 f))) ||| (c2_faultsOfPack_j81_0 f)) ||| (c2_weldBit1_v (c2_leakBit_m f (c2_faultsOfPack_j59_0 f)))) ||| (c2_silentBit_v (c2_weldBit1_m (c2_leakBit_m f (c2_faultsOfPack_j59_0 f))) (f 184 28)))]) (m' := (c2_silentBit_m (c2_weldBit1_m (c2_leakBit_m f (c2_faultsOfPack_j59_0 f))) (f 184 28), l)) rfl rfl (fl_bo rfl) rfl ?_
    refine fl_Tq.cB (c := (29 : Int32)) rfl (by decide +kernel) (fl_bo rfl) ?_
    refine fl_Tq.ldV (p := 184) (τ := 52) (n := 30) (z := (0, 0, 0)) (k := 29) (v := f 184 29) rfl (fl_bo rfl) rfl (by decide +kernel) (by decide) (by simp only [c2_silentBit_fr (by decide : 184 ≠ 190), c2_weldBit1_fr (by decide : 184 ≠ 190), c2_leakBit_fr (by decide : 184 ≠ 190)]) ?_
    have hj122 : fl_Tq (pw_P L xs) 69 148 [some (.inr (.inr (.inl (49, 181)))), some (.inr (.inr (.inl (52, 184)))), some (.inl (c2_faultsOfPack_j13_0 f)), some (.inl (((((c2_faultsOfPack_j36_0 f) ||| (c2_leakBit_v f (c2_faultsOfPack_j59_0 f))) ||| (c2_faultsOfPack_j81_0 f)) ||| (c2_weldBit1_v (c2_leakBit_m f (c2_faultsOfPack_j59_0 f)))) ||| (c2_silentBit_v (c2_weldBit1_m (c2_leakBit_m f (c2_faultsOfPack_j59_0 f))) (f 184 28))))] [.inl (c2_faultsOfPack_j138_1 f), .inl (((((c2_faultsOfPack_j36_0 f) ||| (c2_leakBit_v f (c2_faultsOfPack_j59_0 f))) ||| (c2_faultsOfPack_j81_0 f)) ||| (c2_weldBit1_v (c2_leakBit_m f (c2_faultsOfPack_j59_0 f)))) ||| (c2_silentBit_v (c2_weldBit1_m (c2_leakBit_m f (c2_faultsOfPack_j59_0 f))) (f 184 28)))] (c2_silentBit_m (c2_weldBit1_m (c2_leakBit_m f (c2_faultsOfPack_j59_0 f))) (f 184 28), l) Q → fl_Tq (pw_P L xs) 69 138 [some (.inr (.inr (.inl (49, 181)))), some (.inr (.inr (.inl (52, 184)))), some (.inl (c2_faultsOfPack_j13_0 f)), some (.inl (((((c2_faultsOfPack_j36_0 f) ||| (c2_leakBit_v f (c2_faultsOfPack_j59_0 f))) ||| (c2_faultsOfPack_j81_0 f)) ||| (c2_weldBit1_v (c2_leakBit_m f (c2_faultsOfPack_j59_0 f)))) ||| (c2_silentBit_v (c2_weldBit1_m (c2_leakBit_m f (c2_faultsOfPack_j59_0 f))) (f 184 28))))] [.inl (f 184 29), .inl (((((c2_faultsOfPack_j36_0 f) ||| (c2_leakBit_v f (c2_faultsOfPack_j59_0 f))) ||| (c2_faultsOfPack_j81_0 f)) ||| (c2_weldBit1_v (c2_leakBit_m f (c2_faultsOfPack_j59_0 f)))) ||| (c2_silentBit_v (c2_weldBit1_m (c2_leakBit_m f (c2_faultsOfPack_j59_0 f))) (f 184 28)))] (c2_silentBit_m (c2_weldBit1_m (c2_leakBit_m f (c2_faultsOfPack_j59_0 f))) (f 184 28), l) Q := by
      intro hJ
      by_cases h8 : (f 184 29).toInt = 0
      · refine fl_Tq.zf rfl (fl_bo rfl) (c1_ne_f h8) rfl ?_
        refine fl_Tq.cS (c := (1024 : Int32)) rfl (by decide +kernel) (fl_bo rfl) ?_
        refine fl_Tq.stp (pc' := 148) (lv' := [some (.inr (.inr (.inl (49, 181)))), some (.inr (.inr (.inl (52, 184)))), some (.inl (c2_faultsOfPack_j13_0 f)), some (.inl (((((c2_faultsOfPack_j36_0 f) ||| (c2_leakBit_v f (c2_faultsOfPack_j59_0 f))) ||| (c2_faultsOfPack_j81_0 f)) ||| (c2_weldBit1_v (c2_leakBit_m f (c2_faultsOfPack_j59_0 f)))) ||| (c2_silentBit_v (c2_weldBit1_m (c2_leakBit_m f (c2_faultsOfPack_j59_0 f))) (f 184 28))))]) (st' := [.inl (1024 : Int32), .inl (((((c2_faultsOfPack_j36_0 f) ||| (c2_leakBit_v f (c2_faultsOfPack_j59_0 f))) ||| (c2_faultsOfPack_j81_0 f)) ||| (c2_weldBit1_v (c2_leakBit_m f (c2_faultsOfPack_j59_0 f)))) ||| (c2_silentBit_v (c2_weldBit1_m (c2_leakBit_m f (c2_faultsOfPack_j59_0 f))) (f 184 28)))]) (m' := (c2_silentBit_m (c2_weldBit1_m (c2_leakBit_m f (c2_faultsOfPack_j59_0 f))) (f 184 28), l)) rfl rfl (fl_bo rfl) rfl ?_
        have e0 : (c2_faultsOfPack_j138_1 f) = (1024 : Int32) := by simp only [c2_faultsOfPack_j138_1, if_pos h8]
        rw [e0] at hJ
        exact hJ
      · refine fl_Tq.zt rfl (fl_bo rfl) (c1_ne_t h8) rfl ?_
        refine fl_Tq.cI (c := (0 : Int32)) rfl (by decide +kernel) (fl_bo rfl) ?_
        have e0 : (c2_faultsOfPack_j138_1 f) = (0 : Int32) := by simp only [c2_faultsOfPack_j138_1, if_neg h8]
        rw [e0] at hJ
        exact hJ
    refine hj122 ?_
    show fl_Tq _ 69 148 [some (.inr (.inr (.inl (49, 181)))), some (.inr (.inr (.inl (52, 184)))), some (.inl (c2_faultsOfPack_j13_0 f)), some (.inl (((((c2_faultsOfPack_j36_0 f) ||| (c2_leakBit_v f (c2_faultsOfPack_j59_0 f))) ||| (c2_faultsOfPack_j81_0 f)) ||| (c2_weldBit1_v (c2_leakBit_m f (c2_faultsOfPack_j59_0 f)))) ||| (c2_silentBit_v (c2_weldBit1_m (c2_leakBit_m f (c2_faultsOfPack_j59_0 f))) (f 184 28))))] [.inl (c2_faultsOfPack_j138_1 f), .inl (((((c2_faultsOfPack_j36_0 f) ||| (c2_leakBit_v f (c2_faultsOfPack_j59_0 f))) ||| (c2_faultsOfPack_j81_0 f)) ||| (c2_weldBit1_v (c2_leakBit_m f (c2_faultsOfPack_j59_0 f)))) ||| (c2_silentBit_v (c2_weldBit1_m (c2_leakBit_m f (c2_faultsOfPack_j59_0 f))) (f 184 28)))] (c2_silentBit_m (c2_weldBit1_m (c2_leakBit_m f (c2_faultsOfPack_j59_0 f))) (f 184 28), l) _
    refine fl_Tq.stp (pc' := 149) (lv' := [some (.inr (.inr (.inl (49, 181)))), some (.inr (.inr (.inl (52, 184)))), some (.inl (c2_faultsOfPack_j13_0 f)), some (.inl (((((c2_faultsOfPack_j36_0 f) ||| (c2_leakBit_v f (c2_faultsOfPack_j59_0 f))) ||| (c2_faultsOfPack_j81_0 f)) ||| (c2_weldBit1_v (c2_leakBit_m f (c2_faultsOfPack_j59_0 f)))) ||| (c2_silentBit_v (c2_weldBit1_m (c2_leakBit_m f (c2_faultsOfPack_j59_0 f))) (f 184 28))))]) (st' := [.inl ((((((c2_faultsOfPack_j36_0 f) ||| (c2_leakBit_v f (c2_faultsOfPack_j59_0 f))) ||| (c2_faultsOfPack_j81_0 f)) ||| (c2_weldBit1_v (c2_leakBit_m f (c2_faultsOfPack_j59_0 f)))) ||| (c2_silentBit_v (c2_weldBit1_m (c2_leakBit_m f (c2_faultsOfPack_j59_0 f))) (f 184 28))) ||| (c2_faultsOfPack_j138_1 f))]) (m' := (c2_silentBit_m (c2_weldBit1_m (c2_leakBit_m f (c2_faultsOfPack_j59_0 f))) (f 184 28), l)) rfl rfl (fl_bo rfl) rfl ?_
    refine fl_Tq.stp (pc' := 150) (lv' := [some (.inr (.inr (.inl (49, 181)))), some (.inr (.inr (.inl (52, 184)))), some (.inl (c2_faultsOfPack_j13_0 f)), some (.inl ((((((c2_faultsOfPack_j36_0 f) ||| (c2_leakBit_v f (c2_faultsOfPack_j59_0 f))) ||| (c2_faultsOfPack_j81_0 f)) ||| (c2_weldBit1_v (c2_leakBit_m f (c2_faultsOfPack_j59_0 f)))) ||| (c2_silentBit_v (c2_weldBit1_m (c2_leakBit_m f (c2_faultsOfPack_j59_0 f))) (f 184 28))) ||| (c2_faultsOfPack_j138_1 f)))]) (st' := []) (m' := (c2_silentBit_m (c2_weldBit1_m (c2_leakBit_m f (c2_faultsOfPack_j59_0 f))) (f 184 28), l)) rfl rfl (fl_bo rfl) rfl ?_
    refine fl_Tq.stp (pc' := 151) (lv' := [some (.inr (.inr (.inl (49, 181)))), some (.inr (.inr (.inl (52, 184)))), some (.inl (c2_faultsOfPack_j13_0 f)), some (.inl ((((((c2_faultsOfPack_j36_0 f) ||| (c2_leakBit_v f (c2_faultsOfPack_j59_0 f))) ||| (c2_faultsOfPack_j81_0 f)) ||| (c2_weldBit1_v (c2_leakBit_m f (c2_faultsOfPack_j59_0 f)))) ||| (c2_silentBit_v (c2_weldBit1_m (c2_leakBit_m f (c2_faultsOfPack_j59_0 f))) (f 184 28))) ||| (c2_faultsOfPack_j138_1 f)))]) (st' := [.inl ((((((c2_faultsOfPack_j36_0 f) ||| (c2_leakBit_v f (c2_faultsOfPack_j59_0 f))) ||| (c2_faultsOfPack_j81_0 f)) ||| (c2_weldBit1_v (c2_leakBit_m f (c2_faultsOfPack_j59_0 f)))) ||| (c2_silentBit_v (c2_weldBit1_m (c2_leakBit_m f (c2_faultsOfPack_j59_0 f))) (f 184 28))) ||| (c2_faultsOfPack_j138_1 f))]) (m' := (c2_silentBit_m (c2_weldBit1_m (c2_leakBit_m f (c2_faultsOfPack_j59_0 f))) (f 184 28), l)) rfl rfl (fl_bo rfl) rfl ?_
    refine fl_Tq.ret rfl rfl rfl ?_
    unfold c2_faultsOfPack_v at k
    unfold c2_faultsOfPack_m at k
    simp only [if_neg h6] at k
    exact k
theorem c2_badd_hl {f : t2_F} {x y z : Int32} (hl : f 193 0 = (24 : Int32) ∧ (0 ≤ (f 193 2).toInt ∧ (f 193 2).toInt ≤ 23) ∧ (0 ≤ (f 193 3).toInt ∧ (f 193 3).toInt ≤ 24)) : c2_badd_m f x y z 193 0 = (24 : Int32) ∧ (0 ≤ (c2_badd_m f x y z 193 2).toInt ∧ (c2_badd_m f x y z 193 2).toInt ≤ 23) ∧ (0 ≤ (c2_badd_m f x y z 193 3).toInt ∧ (c2_badd_m f x y z 193 3).toInt ≤ 24) := by
  have e24 : (24 : Int32).toInt = 24 := by decide +kernel
  have e1 : (1 : Int32).toInt = 1 := by decide +kernel
  obtain ⟨h1, h2, h3⟩ := hl
  unfold c2_badd_m c2_badd_j48_0 c2_badd_j48_1
  rw [fl_row_self, upd_ne (by decide : 0 ≠ 2), upd_ne (by decide : 0 ≠ 3), upd_self, upd_ne (by decide : 3 ≠ 2), upd_self, h1]
  refine ⟨rfl, ?_, ?_⟩
  · split
    · exact h2
    · refine c2_bplace_b ?_ (by omega)
      rw [fl_row_ne (by decide)]
      exact ⟨h1, h2, h3⟩
  · split
    · rw [at_add32] <;> omega
    · exact h3
noncomputable def c2_latch_b5_j22_0 (f : t2_F) (x y : Int32) (a0 : Int32) (k : Nat) : Int32 := if (x &&& ((1 : Int32) <<< ((Int32.ofNat k) &&& 31))).toInt = 0 then a0 else (if ((f 190 3) &&& ((1 : Int32) <<< ((Int32.ofNat k) &&& 31))).toInt = 0 then a0 + (1 : Int32) else a0)
noncomputable def c2_latch_b5_m (f : t2_F) (x y : Int32) (a0 : Int32) (k : Nat) : t2_F := if (x &&& ((1 : Int32) <<< ((Int32.ofNat k) &&& 31))).toInt = 0 then f else (if ((f 190 3) &&& ((1 : Int32) <<< ((Int32.ofNat k) &&& 31))).toInt = 0 then c2_badd_m (fl_row (fl_row f 191 (upd (f 191) k y)) 190 (upd (f 190) 3 ((f 190 3) ||| ((1 : Int32) <<< ((Int32.ofNat k) &&& 31))))) y (Int32.ofNat k) (0 : Int32) else fl_row f 191 (upd (f 191) k y))
noncomputable def c2_latch_b5_v (f : t2_F) (x y : Int32) (a0 : Int32) (k : Nat) : Int32 := c2_latch_b5_j22_0 f x y a0 k
theorem c2_latch_b5_fr {f : t2_F} {x y : Int32} {a0 : Int32} {k : Nat} {p : Nat} (e0 : p ≠ 194) (e1 : p ≠ 193) (e2 : p ≠ 191) (e3 : p ≠ 190) : c2_latch_b5_m f x y a0 k p = f p := by
  unfold c2_latch_b5_m
  repeat' split
  all_goals first | rfl | (simp only [fl_row_ne e0, fl_row_ne e1, fl_row_ne e2, fl_row_ne e3, c2_badd_fr e0 e1]; done) | (simp only [fl_row_ne e0, fl_row_ne e1, fl_row_ne e2, fl_row_ne e3, c2_badd_fr e0 e1]; split <;> simp only [fl_row_ne e0, fl_row_ne e1, fl_row_ne e2, fl_row_ne e3, c2_badd_fr e0 e1])
theorem c2_latch_b5_q {L : Nat} {xs : Nat → Int32} {f : t2_F} {l : t2_L} {Q : Option fl_V → fl_M → Prop} {x y : Int32} {a0 : Int32} {k : Nat} {n : Nat} (hkn : k < n) (hb : ((11 : Int32)).toInt = (n : Int)) (h16 : n ≤ 11) (hlb : f 193 0 = (24 : Int32) ∧ (0 ≤ (f 193 2).toInt ∧ (f 193 2).toInt ≤ 23) ∧ (0 ≤ (f 193 3).toInt ∧ (f 193 3).toInt ≤ 24)) (hS : fl_Tq (pw_P L xs) 99 5 [some (.inr (.inr (.inl (58, 190)))), some (.inl x), some (.inl y), some (.inl (c2_latch_b5_v f x y a0 k)), some (.inl (Int32.ofNat (k + 1))), none] [] (c2_latch_b5_m f x y a0 k, l) Q) : fl_Tq (pw_P L xs) 99 5 [some (.inr (.inr (.inl (58, 190)))), some (.inl x), some (.inl y), some (.inl a0), some (.inl (Int32.ofNat k)), none] [] (f, l) Q := by
  refine fl_Tq.stp (pc' := 7) (lv' := [some (.inr (.inr (.inl (58, 190)))), some (.inl x), some (.inl y), some (.inl a0), some (.inl (Int32.ofNat k)), none]) (st' := [.inl (Int32.ofNat k)]) (m' := (f, l)) rfl rfl (fl_bo rfl) rfl ?_
  refine fl_Tq.cB (c := (11 : Int32)) rfl (by decide +kernel) (fl_bo rfl) ?_
  refine fl_Tq.jf rfl (fl_bo rfl) (c2_ge_f (t2_lk hkn hb)) rfl ?_
  refine fl_Tq.cI (c := (1 : Int32)) rfl (by decide +kernel) (fl_bo rfl) ?_
  refine fl_Tq.stp (pc' := 15) (lv' := [some (.inr (.inr (.inl (58, 190)))), some (.inl x), some (.inl y), some (.inl a0), some (.inl (Int32.ofNat k)), none]) (st' := [.inl (Int32.ofNat k), .inl (1 : Int32)]) (m' := (f, l)) rfl rfl (fl_bo rfl) rfl ?_
  refine fl_Tq.stp (pc' := 16) (lv' := [some (.inr (.inr (.inl (58, 190)))), some (.inl x), some (.inl y), some (.inl a0), some (.inl (Int32.ofNat k)), none]) (st' := [.inl ((1 : Int32) <<< ((Int32.ofNat k) &&& 31))]) (m' := (f, l)) rfl rfl (fl_bo rfl) rfl ?_
  refine fl_Tq.stp (pc' := 18) (lv' := [some (.inr (.inr (.inl (58, 190)))), some (.inl x), some (.inl y), some (.inl a0), some (.inl (Int32.ofNat k)), some (.inl ((1 : Int32) <<< ((Int32.ofNat k) &&& 31)))]) (st' := []) (m' := (f, l)) rfl rfl (fl_bo rfl) rfl ?_
  refine fl_Tq.stp (pc' := 19) (lv' := [some (.inr (.inr (.inl (58, 190)))), some (.inl x), some (.inl y), some (.inl a0), some (.inl (Int32.ofNat k)), some (.inl ((1 : Int32) <<< ((Int32.ofNat k) &&& 31)))]) (st' := [.inl x]) (m' := (f, l)) rfl rfl (fl_bo rfl) rfl ?_
  refine fl_Tq.stp (pc' := 21) (lv' := [some (.inr (.inr (.inl (58, 190)))), some (.inl x), some (.inl y), some (.inl a0), some (.inl (Int32.ofNat k)), some (.inl ((1 : Int32) <<< ((Int32.ofNat k) &&& 31)))]) (st' := [.inl ((1 : Int32) <<< ((Int32.ofNat k) &&& 31)), .inl x]) (m' := (f, l)) rfl rfl (fl_bo rfl) rfl ?_
  refine fl_Tq.stp (pc' := 22) (lv' := [some (.inr (.inr (.inl (58, 190)))), some (.inl x), some (.inl y), some (.inl a0), some (.inl (Int32.ofNat k)), some (.inl ((1 : Int32) <<< ((Int32.ofNat k) &&& 31)))]) (st' := [.inl (x &&& ((1 : Int32) <<< ((Int32.ofNat k) &&& 31)))]) (m' := (f, l)) rfl rfl (fl_bo rfl) rfl ?_
  have hj123 : fl_Tq (pw_P L xs) 99 68 [some (.inr (.inr (.inl (58, 190)))), some (.inl x), some (.inl y), some (.inl (c2_latch_b5_j22_0 f x y a0 k)), some (.inl (Int32.ofNat k)), some (.inl ((1 : Int32) <<< ((Int32.ofNat k) &&& 31)))] [] (if (x &&& ((1 : Int32) <<< ((Int32.ofNat k) &&& 31))).toInt = 0 then f else (if ((f 190 3) &&& ((1 : Int32) <<< ((Int32.ofNat k) &&& 31))).toInt = 0 then c2_badd_m (fl_row (fl_row f 191 (upd (f 191) k y)) 190 (upd (f 190) 3 ((f 190 3) ||| ((1 : Int32) <<< ((Int32.ofNat k) &&& 31))))) y (Int32.ofNat k) (0 : Int32) else fl_row f 191 (upd (f 191) k y)), l) Q → fl_Tq (pw_P L xs) 99 22 [some (.inr (.inr (.inl (58, 190)))), some (.inl x), some (.inl y), some (.inl a0), some (.inl (Int32.ofNat k)), some (.inl ((1 : Int32) <<< ((Int32.ofNat k) &&& 31)))] [.inl (x &&& ((1 : Int32) <<< ((Int32.ofNat k) &&& 31)))] (f, l) Q := by
    intro hJ
    by_cases h1 : (x &&& ((1 : Int32) <<< ((Int32.ofNat k) &&& 31))).toInt = 0
    · refine fl_Tq.zt rfl (fl_bo rfl) (c1_eq_t h1) rfl ?_
      have e0 : (c2_latch_b5_j22_0 f x y a0 k) = a0 := by simp only [c2_latch_b5_j22_0, if_pos h1]
      have e1 : (if (x &&& ((1 : Int32) <<< ((Int32.ofNat k) &&& 31))).toInt = 0 then f else (if ((f 190 3) &&& ((1 : Int32) <<< ((Int32.ofNat k) &&& 31))).toInt = 0 then c2_badd_m (fl_row (fl_row f 191 (upd (f 191) k y)) 190 (upd (f 190) 3 ((f 190 3) ||| ((1 : Int32) <<< ((Int32.ofNat k) &&& 31))))) y (Int32.ofNat k) (0 : Int32) else fl_row f 191 (upd (f 191) k y))) = f := by simp only [if_pos h1]
      rw [e0, e1] at hJ
      exact hJ
    · refine fl_Tq.zf rfl (fl_bo rfl) (c1_eq_f h1) rfl ?_
      refine fl_Tq.stp (pc' := 26) (lv' := [some (.inr (.inr (.inl (58, 190)))), some (.inl x), some (.inl y), some (.inl a0), some (.inl (Int32.ofNat k)), some (.inl ((1 : Int32) <<< ((Int32.ofNat k) &&& 31)))]) (st' := [.inr (.inr (.inl (58, 190)))]) (m' := (f, l)) rfl rfl (fl_bo rfl) rfl ?_
      refine fl_Tq.stp (pc' := 29) (lv' := [some (.inr (.inr (.inl (58, 190)))), some (.inl x), some (.inl y), some (.inl a0), some (.inl (Int32.ofNat k)), some (.inl ((1 : Int32) <<< ((Int32.ofNat k) &&& 31)))]) (st' := [.inr (.inr (.inl (59, 191)))]) (m' := (f, l)) rfl rfl (fl_bo rfl) rfl ?_
      refine fl_Tq.stp (pc' := 31) (lv' := [some (.inr (.inr (.inl (58, 190)))), some (.inl x), some (.inl y), some (.inl a0), some (.inl (Int32.ofNat k)), some (.inl ((1 : Int32) <<< ((Int32.ofNat k) &&& 31)))]) (st' := [.inl (Int32.ofNat k), .inr (.inr (.inl (59, 191)))]) (m' := (f, l)) rfl rfl (fl_bo rfl) rfl ?_
      refine fl_Tq.stp (pc' := 32) (lv' := [some (.inr (.inr (.inl (58, 190)))), some (.inl x), some (.inl y), some (.inl a0), some (.inl (Int32.ofNat k)), some (.inl ((1 : Int32) <<< ((Int32.ofNat k) &&& 31)))]) (st' := [.inl y, .inl (Int32.ofNat k), .inr (.inr (.inl (59, 191)))]) (m' := (f, l)) rfl rfl (fl_bo rfl) rfl ?_
      refine fl_Tq.svV (p := 191) (τ := 59) (n := 11) (z := (0, 0, 0)) (k := k) (m' := (fl_row f 191 (upd (f 191) k y), l)) rfl (fl_bo rfl) rfl (at_ofN (by omega)) (by omega) (t2_upn rfl) ?_
      refine fl_Tq.stp (pc' := 34) (lv' := [some (.inr (.inr (.inl (58, 190)))), some (.inl x), some (.inl y), some (.inl a0), some (.inl (Int32.ofNat k)), some (.inl ((1 : Int32) <<< ((Int32.ofNat k) &&& 31)))]) (st' := [.inr (.inr (.inl (58, 190)))]) (m' := (fl_row f 191 (upd (f 191) k y), l)) rfl rfl (fl_bo rfl) rfl ?_
      refine fl_Tq.gfV (k := 3) (v := f 190 3) rfl (fl_bo rfl) rfl (by simp only [fl_row_ne (by decide : 190 ≠ 191)]) ?_
      refine fl_Tq.stp (pc' := 39) (lv' := [some (.inr (.inr (.inl (58, 190)))), some (.inl x), some (.inl y), some (.inl a0), some (.inl (Int32.ofNat k)), some (.inl ((1 : Int32) <<< ((Int32.ofNat k) &&& 31)))]) (st' := [.inl ((1 : Int32) <<< ((Int32.ofNat k) &&& 31)), .inl (f 190 3)]) (m' := (fl_row f 191 (upd (f 191) k y), l)) rfl rfl (fl_bo rfl) rfl ?_
      refine fl_Tq.stp (pc' := 40) (lv' := [some (.inr (.inr (.inl (58, 190)))), some (.inl x), some (.inl y), some (.inl a0), some (.inl (Int32.ofNat k)), some (.inl ((1 : Int32) <<< ((Int32.ofNat k) &&& 31)))]) (st' := [.inl ((f 190 3) &&& ((1 : Int32) <<< ((Int32.ofNat k) &&& 31)))]) (m' := (fl_row f 191 (upd (f 191) k y), l)) rfl rfl (fl_bo rfl) rfl ?_
      by_cases h2 : ((f 190 3) &&& ((1 : Int32) <<< ((Int32.ofNat k) &&& 31))).toInt = 0
      · refine fl_Tq.zf rfl (fl_bo rfl) (c1_ne_f h2) rfl ?_
        refine fl_Tq.stp (pc' := 44) (lv' := [some (.inr (.inr (.inl (58, 190)))), some (.inl x), some (.inl y), some (.inl a0), some (.inl (Int32.ofNat k)), some (.inl ((1 : Int32) <<< ((Int32.ofNat k) &&& 31)))]) (st' := [.inr (.inr (.inl (58, 190)))]) (m' := (fl_row f 191 (upd (f 191) k y), l)) rfl rfl (fl_bo rfl) rfl ?_
        refine fl_Tq.stp (pc' := 45) (lv' := [some (.inr (.inr (.inl (58, 190)))), some (.inl x), some (.inl y), some (.inl a0), some (.inl (Int32.ofNat k)), some (.inl ((1 : Int32) <<< ((Int32.ofNat k) &&& 31)))]) (st' := [.inr (.inr (.inl (58, 190))), .inr (.inr (.inl (58, 190)))]) (m' := (fl_row f 191 (upd (f 191) k y), l)) rfl rfl (fl_bo rfl) rfl ?_
        refine fl_Tq.gfV (k := 3) (v := f 190 3) rfl (fl_bo rfl) rfl (by simp only [fl_row_ne (by decide : 190 ≠ 191)]) ?_
        refine fl_Tq.stp (pc' := 50) (lv' := [some (.inr (.inr (.inl (58, 190)))), some (.inl x), some (.inl y), some (.inl a0), some (.inl (Int32.ofNat k)), some (.inl ((1 : Int32) <<< ((Int32.ofNat k) &&& 31)))]) (st' := [.inl ((1 : Int32) <<< ((Int32.ofNat k) &&& 31)), .inl (f 190 3), .inr (.inr (.inl (58, 190)))]) (m' := (fl_row f 191 (upd (f 191) k y), l)) rfl rfl (fl_bo rfl) rfl ?_
        refine fl_Tq.stp (pc' := 51) (lv' := [some (.inr (.inr (.inl (58, 190)))), some (.inl x), some (.inl y), some (.inl a0), some (.inl (Int32.ofNat k)), some (.inl ((1 : Int32) <<< ((Int32.ofNat k) &&& 31)))]) (st' := [.inl ((f 190 3) ||| ((1 : Int32) <<< ((Int32.ofNat k) &&& 31))), .inr (.inr (.inl (58, 190)))]) (m' := (fl_row f 191 (upd (f 191) k y), l)) rfl rfl (fl_bo rfl) rfl ?_
        refine fl_Tq.pfV (k := 3) (m' := (fl_row (fl_row f 191 (upd (f 191) k y)) 190 (upd (f 190) 3 ((f 190 3) ||| ((1 : Int32) <<< ((Int32.ofNat k) &&& 31)))), l)) rfl (fl_bo rfl) rfl (t2_upn (by rw [fl_row_ne (by decide : 190 ≠ 191)])) ?_
        refine fl_Tq.stp (pc' := 55) (lv' := [some (.inr (.inr (.inl (58, 190)))), some (.inl x), some (.inl y), some (.inl a0), some (.inl (Int32.ofNat k)), some (.inl ((1 : Int32) <<< ((Int32.ofNat k) &&& 31)))]) (st' := [.inr (.inr (.inl (58, 190)))]) (m' := (fl_row (fl_row f 191 (upd (f 191) k y)) 190 (upd (f 190) 3 ((f 190 3) ||| ((1 : Int32) <<< ((Int32.ofNat k) &&& 31)))), l)) rfl rfl (fl_bo rfl) rfl ?_
        refine fl_Tq.stp (pc' := 58) (lv' := [some (.inr (.inr (.inl (58, 190)))), some (.inl x), some (.inl y), some (.inl a0), some (.inl (Int32.ofNat k)), some (.inl ((1 : Int32) <<< ((Int32.ofNat k) &&& 31)))]) (st' := [.inr (.inr (.inl (61, 193)))]) (m' := (fl_row (fl_row f 191 (upd (f 191) k y)) 190 (upd (f 190) 3 ((f 190 3) ||| ((1 : Int32) <<< ((Int32.ofNat k) &&& 31)))), l)) rfl rfl (fl_bo rfl) rfl ?_
        refine fl_Tq.stp (pc' := 59) (lv' := [some (.inr (.inr (.inl (58, 190)))), some (.inl x), some (.inl y), some (.inl a0), some (.inl (Int32.ofNat k)), some (.inl ((1 : Int32) <<< ((Int32.ofNat k) &&& 31)))]) (st' := [.inl y, .inr (.inr (.inl (61, 193)))]) (m' := (fl_row (fl_row f 191 (upd (f 191) k y)) 190 (upd (f 190) 3 ((f 190 3) ||| ((1 : Int32) <<< ((Int32.ofNat k) &&& 31)))), l)) rfl rfl (fl_bo rfl) rfl ?_
        refine fl_Tq.stp (pc' := 61) (lv' := [some (.inr (.inr (.inl (58, 190)))), some (.inl x), some (.inl y), some (.inl a0), some (.inl (Int32.ofNat k)), some (.inl ((1 : Int32) <<< ((Int32.ofNat k) &&& 31)))]) (st' := [.inl (Int32.ofNat k), .inl y, .inr (.inr (.inl (61, 193)))]) (m' := (fl_row (fl_row f 191 (upd (f 191) k y)) 190 (upd (f 190) 3 ((f 190 3) ||| ((1 : Int32) <<< ((Int32.ofNat k) &&& 31)))), l)) rfl rfl (fl_bo rfl) rfl ?_
        refine fl_Tq.cI (c := (0 : Int32)) rfl (by decide +kernel) (fl_bo rfl) ?_
        refine fl_Tq.cal rfl rfl (fl_bo rfl) rfl ?_
        refine c2_badd_q (by simp only [fl_row_ne (by decide : 193 ≠ 190), fl_row_ne (by decide : 193 ≠ 191)]; exact hlb) ?_
        show fl_Tq _ 99 65 [some (.inr (.inr (.inl (58, 190)))), some (.inl x), some (.inl y), some (.inl a0), some (.inl (Int32.ofNat k)), some (.inl ((1 : Int32) <<< ((Int32.ofNat k) &&& 31)))] [] (c2_badd_m (fl_row (fl_row f 191 (upd (f 191) k y)) 190 (upd (f 190) 3 ((f 190 3) ||| ((1 : Int32) <<< ((Int32.ofNat k) &&& 31))))) y (Int32.ofNat k) (0 : Int32), l) _
        refine fl_Tq.stp (pc' := 68) (lv' := [some (.inr (.inr (.inl (58, 190)))), some (.inl x), some (.inl y), some (.inl (a0 + (1 : Int32))), some (.inl (Int32.ofNat k)), some (.inl ((1 : Int32) <<< ((Int32.ofNat k) &&& 31)))]) (st' := []) (m' := (c2_badd_m (fl_row (fl_row f 191 (upd (f 191) k y)) 190 (upd (f 190) 3 ((f 190 3) ||| ((1 : Int32) <<< ((Int32.ofNat k) &&& 31))))) y (Int32.ofNat k) (0 : Int32), l)) rfl rfl (fl_bo rfl) rfl ?_
        have e0 : (c2_latch_b5_j22_0 f x y a0 k) = a0 + (1 : Int32) := by simp only [c2_latch_b5_j22_0, if_neg h1, if_pos h2]
        have e1 : (if (x &&& ((1 : Int32) <<< ((Int32.ofNat k) &&& 31))).toInt = 0 then f else (if ((f 190 3) &&& ((1 : Int32) <<< ((Int32.ofNat k) &&& 31))).toInt = 0 then c2_badd_m (fl_row (fl_row f 191 (upd (f 191) k y)) 190 (upd (f 190) 3 ((f 190 3) ||| ((1 : Int32) <<< ((Int32.ofNat k) &&& 31))))) y (Int32.ofNat k) (0 : Int32) else fl_row f 191 (upd (f 191) k y))) = c2_badd_m (fl_row (fl_row f 191 (upd (f 191) k y)) 190 (upd (f 190) 3 ((f 190 3) ||| ((1 : Int32) <<< ((Int32.ofNat k) &&& 31))))) y (Int32.ofNat k) (0 : Int32) := by simp only [if_neg h1, if_pos h2]
        rw [e0, e1] at hJ
        exact hJ
      · refine fl_Tq.zt rfl (fl_bo rfl) (c1_ne_t h2) rfl ?_
        have e0 : (c2_latch_b5_j22_0 f x y a0 k) = a0 := by simp only [c2_latch_b5_j22_0, if_neg h1, if_neg h2]
        have e1 : (if (x &&& ((1 : Int32) <<< ((Int32.ofNat k) &&& 31))).toInt = 0 then f else (if ((f 190 3) &&& ((1 : Int32) <<< ((Int32.ofNat k) &&& 31))).toInt = 0 then c2_badd_m (fl_row (fl_row f 191 (upd (f 191) k y)) 190 (upd (f 190) 3 ((f 190 3) ||| ((1 : Int32) <<< ((Int32.ofNat k) &&& 31))))) y (Int32.ofNat k) (0 : Int32) else fl_row f 191 (upd (f 191) k y))) = fl_row f 191 (upd (f 191) k y) := by simp only [if_neg h1, if_neg h2]
        rw [e0, e1] at hJ
        exact hJ
  refine hj123 ?_
  show fl_Tq _ 99 68 [some (.inr (.inr (.inl (58, 190)))), some (.inl x), some (.inl y), some (.inl (c2_latch_b5_j22_0 f x y a0 k)), some (.inl (Int32.ofNat k)), some (.inl ((1 : Int32) <<< ((Int32.ofNat k) &&& 31)))] [] (if (x &&& ((1 : Int32) <<< ((Int32.ofNat k) &&& 31))).toInt = 0 then f else (if ((f 190 3) &&& ((1 : Int32) <<< ((Int32.ofNat k) &&& 31))).toInt = 0 then c2_badd_m (fl_row (fl_row f 191 (upd (f 191) k y)) 190 (upd (f 190) 3 ((f 190 3) ||| ((1 : Int32) <<< ((Int32.ofNat k) &&& 31))))) y (Int32.ofNat k) (0 : Int32) else fl_row f 191 (upd (f 191) k y)), l) _
  refine fl_Tq.stp (pc' := 71) (lv' := [some (.inr (.inr (.inl (58, 190)))), some (.inl x), some (.inl y), some (.inl (c2_latch_b5_j22_0 f x y a0 k)), some (.inl ((Int32.ofNat k) + (1 : Int32))), some (.inl ((1 : Int32) <<< ((Int32.ofNat k) &&& 31)))]) (st' := []) (m' := (if (x &&& ((1 : Int32) <<< ((Int32.ofNat k) &&& 31))).toInt = 0 then f else (if ((f 190 3) &&& ((1 : Int32) <<< ((Int32.ofNat k) &&& 31))).toInt = 0 then c2_badd_m (fl_row (fl_row f 191 (upd (f 191) k y)) 190 (upd (f 190) 3 ((f 190 3) ||| ((1 : Int32) <<< ((Int32.ofNat k) &&& 31))))) y (Int32.ofNat k) (0 : Int32) else fl_row f 191 (upd (f 191) k y)), l)) rfl rfl (fl_bo rfl) rfl ?_
  refine fl_Tq.stp (pc' := 5) (lv' := [some (.inr (.inr (.inl (58, 190)))), some (.inl x), some (.inl y), some (.inl (c2_latch_b5_j22_0 f x y a0 k)), some (.inl ((Int32.ofNat k) + (1 : Int32))), some (.inl ((1 : Int32) <<< ((Int32.ofNat k) &&& 31)))]) (st' := []) (m' := (if (x &&& ((1 : Int32) <<< ((Int32.ofNat k) &&& 31))).toInt = 0 then f else (if ((f 190 3) &&& ((1 : Int32) <<< ((Int32.ofNat k) &&& 31))).toInt = 0 then c2_badd_m (fl_row (fl_row f 191 (upd (f 191) k y)) 190 (upd (f 190) 3 ((f 190 3) ||| ((1 : Int32) <<< ((Int32.ofNat k) &&& 31))))) y (Int32.ofNat k) (0 : Int32) else fl_row f 191 (upd (f 191) k y)), l)) rfl rfl (fl_bo rfl) rfl ?_
  have em : c2_latch_b5_m f x y a0 k = if (x &&& ((1 : Int32) <<< ((Int32.ofNat k) &&& 31))).toInt = 0 then f else (if ((f 190 3) &&& ((1 : Int32) <<< ((Int32.ofNat k) &&& 31))).toInt = 0 then c2_badd_m (fl_row (fl_row f 191 (upd (f 191) k y)) 190 (upd (f 190) 3 ((f 190 3) ||| ((1 : Int32) <<< ((Int32.ofNat k) &&& 31))))) y (Int32.ofNat k) (0 : Int32) else fl_row f 191 (upd (f 191) k y)) := rfl
  have ea : c2_latch_b5_v f x y a0 k = c2_latch_b5_j22_0 f x y a0 k := rfl
  rw [ea, em, ← t2_k1] at hS
  exact fl_Tq.fg hS ⟨rfl, rfl, rfl, rfl, rfl, True.intro⟩
noncomputable def c2_latch_l5 (f : t2_F) (x y : Int32) : Nat → t2_F × Int32
  | 0 => (f, (0 : Int32))
  | k + 1 => (c2_latch_b5_m (c2_latch_l5 f x y k).1 x y (c2_latch_l5 f x y k).2 k, c2_latch_b5_v (c2_latch_l5 f x y k).1 x y (c2_latch_l5 f x y k).2 k)
noncomputable def c2_latch_f5 (f : t2_F) (x y : Int32) (k : Nat) : t2_F := (c2_latch_l5 f x y k).1
noncomputable def c2_latch_a5_0 (f : t2_F) (x y : Int32) (k : Nat) : Int32 := (c2_latch_l5 f x y k).2
theorem c2_latch_f5_fr {f : t2_F} {x y : Int32} {p : Nat} : ∀ {k : Nat} (e0 : ∀ j : Nat, j < k → p ≠ 194) (e1 : ∀ j : Nat, j < k → p ≠ 193) (e2 : ∀ j : Nat, j < k → p ≠ 191) (e3 : ∀ j : Nat, j < k → p ≠ 190), c2_latch_f5 f x y k p = f p := by
  intro k
  induction k with
  | zero => intros; rfl
  | succ k ih =>
    intro e0 e1 e2 e3
    exact (c2_latch_b5_fr (a0 := (c2_latch_l5 f x y k).2) (e0 k (by omega)) (e1 k (by omega)) (e2 k (by omega)) (e3 k (by omega))).trans (ih (fun j hj => e0 j (by omega)) (fun j hj => e1 j (by omega)) (fun j hj => e2 j (by omega)) (fun j hj => e3 j (by omega)))
theorem c2_latch_il {f : t2_F} {x y : Int32} (hlb : f 193 0 = (24 : Int32) ∧ (0 ≤ (f 193 2).toInt ∧ (f 193 2).toInt ≤ 23) ∧ (0 ≤ (f 193 3).toInt ∧ (f 193 3).toInt ≤ 24)) : ∀ k : Nat, (c2_latch_f5 f x y k) 193 0 = (24 : Int32) ∧ (0 ≤ ((c2_latch_f5 f x y k) 193 2).toInt ∧ ((c2_latch_f5 f x y k) 193 2).toInt ≤ 23) ∧ (0 ≤ ((c2_latch_f5 f x y k) 193 3).toInt ∧ ((c2_latch_f5 f x y k) 193 3).toInt ≤ 24) := by
  intro k
  induction k with
  | zero => exact hlb
  | succ k ih =>
    show (c2_latch_b5_m (c2_latch_f5 f x y k) x y (c2_latch_a5_0 f x y k) k) 193 0 = (24 : Int32) ∧ (0 ≤ ((c2_latch_b5_m (c2_latch_f5 f x y k) x y (c2_latch_a5_0 f x y k) k) 193 2).toInt ∧ ((c2_latch_b5_m (c2_latch_f5 f x y k) x y (c2_latch_a5_0 f x y k) k) 193 2).toInt ≤ 23) ∧ (0 ≤ ((c2_latch_b5_m (c2_latch_f5 f x y k) x y (c2_latch_a5_0 f x y k) k) 193 3).toInt ∧ ((c2_latch_b5_m (c2_latch_f5 f x y k) x y (c2_latch_a5_0 f x y k) k) 193 3).toInt ≤ 24)
    unfold c2_latch_b5_m
    repeat' split
    all_goals first | exact ih | (simp only [fl_row_ne (by decide : (193 : Nat) ≠ 191), fl_row_ne (by decide : (193 : Nat) ≠ 190)]; exact ih) | (refine c2_badd_hl ?_; simp only [fl_row_ne (by decide : (193 : Nat) ≠ 191), fl_row_ne (by decide : (193 : Nat) ≠ 190)]; exact ih)
noncomputable def c2_latch_v (f : t2_F) (x y : Int32) : Int32 := c2_latch_a5_0 f x y 11
noncomputable def c2_latch_m (f : t2_F) (x y : Int32) : t2_F := c2_latch_f5 f x y 11
theorem c2_latch_fr {f : t2_F} {x y : Int32} {p : Nat} (e0 : p ≠ 194) (e1 : p ≠ 193) (e2 : p ≠ 191) (e3 : p ≠ 190) : c2_latch_m f x y p = f p := by
  unfold c2_latch_m
  repeat' split
  all_goals first | rfl | simp only [fl_row_ne e0, fl_row_ne e1, fl_row_ne e2, fl_row_ne e3, c2_latch_f5_fr (k := 11) (fun j hj => by omega) (fun j hj => by omega) (fun j hj => by omega) (fun j hj => by omega)]
theorem c2_latch_q {L : Nat} {xs : Nat → Int32} {f : t2_F} {l : t2_L} {Q : Option fl_V → fl_M → Prop} {x y : Int32} (hlb : f 193 0 = (24 : Int32) ∧ (0 ≤ (f 193 2).toInt ∧ (f 193 2).toInt ≤ 23) ∧ (0 ≤ (f 193 3).toInt ∧ (f 193 3).toInt ≤ 24)) (k : Q (some (.inl (c2_latch_v f x y))) (c2_latch_m f x y, l)) : fl_Tq (pw_P L xs) 99 0 (fl_args (am_mxl (pw_P L xs) 99) [.inr (.inr (.inl (58, 190))), .inl x, .inl y]) [] (f, l) Q := by
  refine fl_Tq.cI (c := (0 : Int32)) rfl (by decide +kernel) (fl_bo rfl) ?_
  refine fl_Tq.stp (pc' := 2) (lv' := [some (.inr (.inr (.inl (58, 190)))), some (.inl x), some (.inl y), some (.inl (0 : Int32)), none, none]) (st' := []) (m' := (f, l)) rfl rfl (fl_bo rfl) rfl ?_
  refine fl_Tq.cI (c := (0 : Int32)) rfl (by decide +kernel) (fl_bo rfl) ?_
  refine fl_Tq.stp (pc' := 5) (lv' := [some (.inr (.inr (.inl (58, 190)))), some (.inl x), some (.inl y), some (.inl (0 : Int32)), some (.inl (0 : Int32)), none]) (st' := []) (m' := (f, l)) rfl rfl (fl_bo rfl) rfl ?_
  have hs5 : ∀ k : Nat, k < 11 → fl_Tq (pw_P L xs) 99 5 [some (.inr (.inr (.inl (58, 190)))), some (.inl x), some (.inl y), some (.inl (c2_latch_a5_0 f x y (k + 1))), some (.inl (Int32.ofNat (k + 1))), none] [] (c2_latch_f5 f x y (k + 1), l) Q → fl_Tq (pw_P L xs) 99 5 [some (.inr (.inr (.inl (58, 190)))), some (.inl x), some (.inl y), some (.inl (c2_latch_a5_0 f x y k)), some (.inl (Int32.ofNat k)), none] [] (c2_latch_f5 f x y k, l) Q := fun k hkn hS => c2_latch_b5_q hkn (by decide +kernel) (by omega) (c2_latch_il hlb k) hS
  refine t2_for (S := fun k => fl_Tq (pw_P L xs) 99 5 [some (.inr (.inr (.inl (58, 190)))), some (.inl x), some (.inl y), some (.inl (c2_latch_a5_0 f x y k)), some (.inl (Int32.ofNat k)), none] [] (c2_latch_f5 f x y k, l) Q) hs5 ?_
  show fl_Tq (pw_P L xs) 99 5 [some (.inr (.inr (.inl (58, 190)))), some (.inl x), some (.inl y), some (.inl (c2_latch_a5_0 f x y 11)), some (.inl (Int32.ofNat 11)), none] [] (c2_latch_f5 f x y 11, l) _
  refine fl_Tq.stp (pc' := 7) (lv' := [some (.inr (.inr (.inl (58, 190)))), some (.inl x), some (.inl y), some (.inl (c2_latch_a5_0 f x y 11)), some (.inl (Int32.ofNat 11)), none]) (st' := [.inl (Int32.ofNat 11)]) (m' := (c2_latch_f5 f x y 11, l)) rfl rfl (fl_bo rfl) rfl ?_
  refine fl_Tq.cB (c := (11 : Int32)) rfl (by decide +kernel) (fl_bo rfl) ?_
  refine fl_Tq.jt rfl (fl_bo rfl) (c2_ge_t (t2_ln (by decide +kernel))) rfl ?_
  refine fl_Tq.stp (pc' := 75) (lv' := [some (.inr (.inr (.inl (58, 190)))), some (.inl x), some (.inl y), some (.inl (c2_latch_a5_0 f x y 11)), some (.inl (Int32.ofNat 11)), none]) (st' := [.inl (c2_latch_a5_0 f x y 11)]) (m' := (c2_latch_f5 f x y 11, l)) rfl rfl (fl_bo rfl) rfl ?_
  exact fl_Tq.ret rfl rfl rfl k
