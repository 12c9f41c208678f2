noncomputable def r_goRules_b2_j40_0 (f : t2_F) (k : Nat) : Int32 := if (f 280 ((79 + (5 * k)) + 1)).toInt = (1 : Int32).toInt then (if (f 280 ((79 + (5 * k)) + 2)).toInt < (r_is_v f (f 280 (79 + (5 * k)))).toInt then f 280 ((79 + (5 * k)) + 4) else f 280 (34 + ((f 280 ((79 + (5 * k)) + 3)).toInt.toNat))) else (if (r_is_v f (f 280 (79 + (5 * k)))).toInt < (f 280 ((79 + (5 * k)) + 2)).toInt then f 280 ((79 + (5 * k)) + 4) else f 280 (34 + ((f 280 ((79 + (5 * k)) + 3)).toInt.toNat)))
noncomputable def r_goRules_b2_m (f : t2_F) (k : Nat) : t2_F := fl_row f 280 (upd (f 280) (34 + ((f 280 ((79 + (5 * k)) + 3)).toInt.toNat)) (r_goRules_b2_j40_0 f k))
theorem r_goRules_b2_fr {f : t2_F} {k : Nat} {p : Nat}  (e280 : p ≠ 280) : r_goRules_b2_m f k p = f p := by
  unfold r_goRules_b2_m
  repeat' split
  all_goals first | rfl | simp only [fl_row_ne e280]
theorem r_goRules_b2_w {f : t2_F} {k : Nat} {w : Nat} (hru : 0 ≤ (f 280 ((79 + (5 * k)) + 3)).toInt ∧ (f 280 ((79 + (5 * k)) + 3)).toInt ≤ 29) (hw : w < 34 ∨ 64 ≤ w) : r_goRules_b2_m f k 280 w = f 280 w := by
  unfold r_goRules_b2_m
  repeat' split
  all_goals first | rfl | simp only [fl_row_self, upd_ne (show w ≠ 34 + ((f 280 ((79 + (5 * k)) + 3)).toInt.toNat) by omega)]
theorem r_goRules_b2_q {L : Nat} {xs : Nat → Int32} {f : t2_F} {l : t2_L} {Q : Option fl_V → fl_M → Prop} {k : Nat} {n : Nat} (hkn : k < n) (hb : (f 280 18).toInt = (n : Int)) (h8 : n ≤ 8) (hn : 0 ≤ (f 280 2).toInt ∧ (f 280 2).toInt ≤ 16) (hr : t2_RS f) (hk : ∀ C : Nat, (C : Int) < (f 280 2).toInt → t2_ck f C) (hru : 0 ≤ (f 280 ((79 + (5 * k)) + 3)).toInt ∧ (f 280 ((79 + (5 * k)) + 3)).toInt ≤ 29) (hS : fl_Tq (pw_P L xs) 236 2 [some (.inr (.inr (.inl (76, 277)))), some (.inl (Int32.ofNat (k + 1))), none, none] [] (r_goRules_b2_m f k, l) Q) : fl_Tq (pw_P L xs) 236 2 [some (.inr (.inr (.inl (76, 277)))), some (.inl (Int32.ofNat k)), none, none] [] (f, l) Q := by
  refine fl_Tq.stp (pc' := 3) (lv' := [some (.inr (.inr (.inl (76, 277)))), some (.inl (Int32.ofNat k)), none, none]) (st' := [.inl (Int32.ofNat k)]) (m' := (f, l)) rfl rfl (fl_bo rfl) rfl ?_
  refine fl_Tq.stp (pc' := 4) (lv' := [some (.inr (.inr (.inl (76, 277)))), some (.inl (Int32.ofNat k)), none, none]) (st' := [.inr (.inr (.inl (76, 277))), .inl (Int32.ofNat k)]) (m' := (f, l)) rfl rfl (fl_bo rfl) rfl ?_
  refine fl_Tq.stp (pc' := 7) (lv' := [some (.inr (.inr (.inl (76, 277)))), some (.inl (Int32.ofNat k)), none, none]) (st' := [.inr (.inr (.inl (79, 280))), .inl (Int32.ofNat k)]) (m' := (f, l)) rfl rfl (fl_bo rfl) rfl ?_
  refine fl_Tq.cB (c := (18 : Int32)) rfl (by decide +kernel) (fl_bo rfl) ?_
  refine fl_Tq.ldV (p := 280) (τ := 79) (n := 29780) (z := (0, 0, 0)) (k := 18) (v := f 280 18) rfl (fl_bo rfl) rfl (by decide +kernel) (by decide) rfl ?_
  refine fl_Tq.jf rfl (fl_bo rfl) (c2_ge_f (t2_lk hkn hb)) rfl ?_
  refine fl_Tq.cB (c := (79 : Int32)) rfl (by decide +kernel) (fl_bo rfl) ?_
  refine fl_Tq.cI (c := (5 : Int32)) rfl (by decide +kernel) (fl_bo rfl) ?_
  refine fl_Tq.stp (pc' := 17) (lv' := [some (.inr (.inr (.inl (76, 277)))), some (.inl (Int32.ofNat k)), none, none]) (st' := [.inl (Int32.ofNat k), .inl (5 : Int32), .inl (79 : Int32)]) (m' := (f, l)) rfl rfl (fl_bo rfl) rfl ?_
  refine fl_Tq.stp (pc' := 18) (lv' := [some (.inr (.inr (.inl (76, 277)))), some (.inl (Int32.ofNat k)), none, none]) (st' := [.inl ((5 : Int32) * (Int32.ofNat k)), .inl (79 : Int32)]) (m' := (f, l)) rfl rfl (fl_bo rfl) rfl ?_
  refine fl_Tq.stp (pc' := 19) (lv' := [some (.inr (.inr (.inl (76, 277)))), some (.inl (Int32.ofNat k)), none, none]) (st' := [.inl ((79 : Int32) + ((5 : Int32) * (Int32.ofNat k)))]) (m' := (f, l)) rfl rfl (fl_bo rfl) rfl ?_
  refine fl_Tq.stp (pc' := 20) (lv' := [some (.inr (.inr (.inl (76, 277)))), some (.inl (Int32.ofNat k)), some (.inl ((79 : Int32) + ((5 : Int32) * (Int32.ofNat k)))), none]) (st' := []) (m' := (f, l)) rfl rfl (fl_bo rfl) rfl ?_
  refine fl_Tq.stp (pc' := 21) (lv' := [some (.inr (.inr (.inl (76, 277)))), some (.inl (Int32.ofNat k)), some (.inl ((79 : Int32) + ((5 : Int32) * (Int32.ofNat k)))), none]) (st' := [.inr (.inr (.inl (76, 277)))]) (m' := (f, l)) rfl rfl (fl_bo rfl) rfl ?_
  refine fl_Tq.stp (pc' := 22) (lv' := [some (.inr (.inr (.inl (76, 277)))), some (.inl (Int32.ofNat k)), some (.inl ((79 : Int32) + ((5 : Int32) * (Int32.ofNat k)))), none]) (st' := [.inr (.inr (.inl (76, 277))), .inr (.inr (.inl (76, 277)))]) (m' := (f, l)) rfl rfl (fl_bo rfl) rfl ?_
  refine fl_Tq.stp (pc' := 25) (lv' := [some (.inr (.inr (.inl (76, 277)))), some (.inl (Int32.ofNat k)), some (.inl ((79 : Int32) + ((5 : Int32) * (Int32.ofNat k)))), none]) (st' := [.inr (.inr (.inl (79, 280))), .inr (.inr (.inl (76, 277)))]) (m' := (f, l)) rfl rfl (fl_bo rfl) rfl ?_
  refine fl_Tq.stp (pc' := 26) (lv' := [some (.inr (.inr (.inl (76, 277)))), some (.inl (Int32.ofNat k)), some (.inl ((79 : Int32) + ((5 : Int32) * (Int32.ofNat k)))), none]) (st' := [.inl ((79 : Int32) + ((5 : Int32) * (Int32.ofNat k))), .inr (.inr (.inl (79, 280))), .inr (.inr (.inl (76, 277)))]) (m' := (f, l)) rfl rfl (fl_bo rfl) rfl ?_
  refine fl_Tq.ldV (p := 280) (τ := 79) (n := 29780) (z := (0, 0, 0)) (k := 79 + (5 * k)) (v := f 280 (79 + (5 * k))) rfl (fl_bo rfl) rfl (t2_ia (by decide +kernel) (t2_im (by decide +kernel) (at_ofN (by omega)) (by omega)) (by omega)) (by omega) rfl ?_
  refine fl_Tq.cal rfl rfl (fl_bo rfl) rfl ?_
  refine r_is_q hn hr hk ?_
  show fl_Tq _ 236 30 [some (.inr (.inr (.inl (76, 277)))), some (.inl (Int32.ofNat k)), some (.inl ((79 : Int32) + ((5 : Int32) * (Int32.ofNat k)))), none] [.inl (r_is_v f (f 280 (79 + (5 * k))))] (f, l) _
  refine fl_Tq.stp (pc' := 31) (lv' := [some (.inr (.inr (.inl (76, 277)))), some (.inl (Int32.ofNat k)), some (.inl ((79 : Int32) + ((5 : Int32) * (Int32.ofNat k)))), some (.inl (r_is_v f (f 280 (79 + (5 * k)))))]) (st' := []) (m' := (f, l)) rfl rfl (fl_bo rfl) rfl ?_
  refine fl_Tq.stp (pc' := 32) (lv' := [some (.inr (.inr (.inl (76, 277)))), some (.inl (Int32.ofNat k)), some (.inl ((79 : Int32) + ((5 : Int32) * (Int32.ofNat k)))), some (.inl (r_is_v f (f 280 (79 + (5 * k)))))]) (st' := [.inr (.inr (.inl (76, 277)))]) (m' := (f, l)) rfl rfl (fl_bo rfl) rfl ?_
  refine fl_Tq.stp (pc' := 35) (lv' := [some (.inr (.inr (.inl (76, 277)))), some (.inl (Int32.ofNat k)), some (.inl ((79 : Int32) + ((5 : Int32) * (Int32.ofNat k)))), some (.inl (r_is_v f (f 280 (79 + (5 * k)))))]) (st' := [.inr (.inr (.inl (79, 280)))]) (m' := (f, l)) rfl rfl (fl_bo rfl) rfl ?_
  refine fl_Tq.stp (pc' := 36) (lv' := [some (.inr (.inr (.inl (76, 277)))), some (.inl (Int32.ofNat k)), some (.inl ((79 : Int32) + ((5 : Int32) * (Int32.ofNat k)))), some (.inl (r_is_v f (f 280 (79 + (5 * k)))))]) (st' := [.inl ((79 : Int32) + ((5 : Int32) * (Int32.ofNat k))), .inr (.inr (.inl (79, 280)))]) (m' := (f, l)) rfl rfl (fl_bo rfl) rfl ?_
  refine fl_Tq.cI (c := (1 : Int32)) rfl (by decide +kernel) (fl_bo rfl) ?_
  refine fl_Tq.stp (pc' := 38) (lv' := [some (.inr (.inr (.inl (76, 277)))), some (.inl (Int32.ofNat k)), some (.inl ((79 : Int32) + ((5 : Int32) * (Int32.ofNat k)))), some (.inl (r_is_v f (f 280 (79 + (5 * k)))))]) (st' := [.inl (((79 : Int32) + ((5 : Int32) * (Int32.ofNat k))) + (1 : Int32)), .inr (.inr (.inl (79, 280)))]) (m' := (f, l)) rfl rfl (fl_bo rfl) rfl ?_
  refine fl_Tq.ldV (p := 280) (τ := 79) (n := 29780) (z := (0, 0, 0)) (k := (79 + (5 * k)) + 1) (v := f 280 ((79 + (5 * k)) + 1)) rfl (fl_bo rfl) rfl (t2_ia (t2_ia (by decide +kernel) (t2_im (by decide +kernel) (at_ofN (by omega)) (by omega)) (by omega)) (by decide +kernel) (by omega)) (by omega) rfl ?_
  refine fl_Tq.cI (c := (1 : Int32)) rfl (by decide +kernel) (fl_bo rfl) ?_
  have hj97 : fl_Tq (pw_P L xs) 236 94 [some (.inr (.inr (.inl (76, 277)))), some (.inl (Int32.ofNat k)), some (.inl ((79 : Int32) + ((5 : Int32) * (Int32.ofNat k)))), some (.inl (r_is_v f (f 280 (79 + (5 * k)))))] [] (fl_row f 280 (upd (f 280) (34 + ((f 280 ((79 + (5 * k)) + 3)).toInt.toNat)) (r_goRules_b2_j40_0 f k)), l) Q → fl_Tq (pw_P L xs) 236 40 [some (.inr (.inr (.inl (76, 277)))), some (.inl (Int32.ofNat k)), some (.inl ((79 : Int32) + ((5 : Int32) * (Int32.ofNat k)))), some (.inl (r_is_v f (f 280 (79 + (5 * k)))))] [.inl (1 : Int32), .inl (f 280 ((79 + (5 * k)) + 1))] (f, l) Q := by
    intro hJ
    by_cases h1 : (f 280 ((79 + (5 * k)) + 1)).toInt = (1 : Int32).toInt
    · refine fl_Tq.jf rfl (fl_bo rfl) (c2_ne_f h1) rfl ?_
      refine fl_Tq.stp (pc' := 44) (lv' := [some (.inr (.inr (.inl (76, 277)))), some (.inl (Int32.ofNat k)), some (.inl ((79 : Int32) + ((5 : Int32) * (Int32.ofNat k)))), some (.inl (r_is_v f (f 280 (79 + (5 * k)))))]) (st' := [.inl (r_is_v f (f 280 (79 + (5 * k))))]) (m' := (f, l)) rfl rfl (fl_bo rfl) rfl ?_
      refine fl_Tq.stp (pc' := 45) (lv' := [some (.inr (.inr (.inl (76, 277)))), some (.inl (Int32.ofNat k)), some (.inl ((79 : Int32) + ((5 : Int32) * (Int32.ofNat k)))), some (.inl (r_is_v f (f 280 (79 + (5 * k)))))]) (st' := [.inr (.inr (.inl (76, 277))), .inl (r_is_v f (f 280 (79 + (5 * k))))]) (m' := (f, l)) rfl rfl (fl_bo rfl) rfl ?_
      refine fl_Tq.stp (pc' := 48) (lv' := [some (.inr (.inr (.inl (76, 277)))), some (.inl (Int32.ofNat k)), some (.inl ((79 : Int32) + ((5 : Int32) * (Int32.ofNat k)))), some (.inl (r_is_v f (f 280 (79 + (5 * k)))))]) (st' := [.inr (.inr (.inl (79, 280))), .inl (r_is_v f (f 280 (79 + (5 * k))))]) (m' := (f, l)) rfl rfl (fl_bo rfl) rfl ?_
      refine fl_Tq.stp (pc' := 49) (lv' := [some (.inr (.inr (.inl (76, 277)))), some (.inl (Int32.ofNat k)), some (.inl ((79 : Int32) + ((5 : Int32) * (Int32.ofNat k)))), some (.inl (r_is_v f (f 280 (79 + (5 * k)))))]) (st' := [.inl ((79 : Int32) + ((5 : Int32) * (Int32.ofNat k))), .inr (.inr (.inl (79, 280))), .inl (r_is_v f (f 280 (79 + (5 * k))))]) (m' := (f, l)) rfl rfl (fl_bo rfl) rfl ?_
      refine fl_Tq.cI (c := (2 : Int32)) rfl (by decide +kernel) (fl_bo rfl) ?_
      refine fl_Tq.stp (pc' := 51) (lv' := [some (.inr (.inr (.inl (76, 277)))), some (.inl (Int32.ofNat k)), some (.inl ((79 : Int32) + ((5 : Int32) * (Int32.ofNat k)))), some (.inl (r_is_v f (f 280 (79 + (5 * k)))))]) (st' := [.inl (((79 : Int32) + ((5 : Int32) * (Int32.ofNat k))) + (2 : Int32)), .inr (.inr (.inl (79, 280))), .inl (r_is_v f (f 280 (79 + (5 * k))))]) (m' := (f, l)) rfl rfl (fl_bo rfl) rfl ?_
      refine fl_Tq.ldV (p := 280) (τ := 79) (n := 29780) (z := (0, 0, 0)) (k := (79 + (5 * k)) + 2) (v := f 280 ((79 + (5 * k)) + 2)) rfl (fl_bo rfl) rfl (t2_ia (t2_ia (by decide +kernel) (t2_im (by decide +kernel) (at_ofN (by omega)) (by omega)) (by omega)) (by decide +kernel) (by omega)) (by omega) rfl ?_
      by_cases h2 : (f 280 ((79 + (5 * k)) + 2)).toInt < (r_is_v f (f 280 (79 + (5 * k)))).toInt
      · refine fl_Tq.jf rfl (fl_bo rfl) (c2_le_f h2) rfl ?_
        refine fl_Tq.stp (pc' := 70) (lv' := [some (.inr (.inr (.inl (76, 277)))), some (.inl (Int32.ofNat k)), some (.inl ((79 : Int32) + ((5 : Int32) * (Int32.ofNat k)))), some (.inl (r_is_v f (f 280 (79 + (5 * k)))))]) (st' := []) (m' := (f, l)) rfl rfl (fl_bo rfl) rfl ?_
        refine fl_Tq.stp (pc' := 71) (lv' := [some (.inr (.inr (.inl (76, 277)))), some (.inl (Int32.ofNat k)), some (.inl ((79 : Int32) + ((5 : Int32) * (Int32.ofNat k)))), some (.inl (r_is_v f (f 280 (79 + (5 * k)))))]) (st' := [.inr (.inr (.inl (76, 277)))]) (m' := (f, l)) rfl rfl (fl_bo rfl) rfl ?_
        refine fl_Tq.stp (pc' := 74) (lv' := [some (.inr (.inr (.inl (76, 277)))), some (.inl (Int32.ofNat k)), some (.inl ((79 : Int32) + ((5 : Int32) * (Int32.ofNat k)))), some (.inl (r_is_v f (f 280 (79 + (5 * k)))))]) (st' := [.inr (.inr (.inl (79, 280)))]) (m' := (f, l)) rfl rfl (fl_bo rfl) rfl ?_
        refine fl_Tq.cB (c := (34 : Int32)) rfl (by decide +kernel) (fl_bo rfl) ?_
        refine fl_Tq.stp (pc' := 77) (lv' := [some (.inr (.inr (.inl (76, 277)))), some (.inl (Int32.ofNat k)), some (.inl ((79 : Int32) + ((5 : Int32) * (Int32.ofNat k)))), some (.inl (r_is_v f (f 280 (79 + (5 * k)))))]) (st' := [.inr (.inr (.inl (76, 277))), .inl (34 : Int32), .inr (.inr (.inl (79, 280)))]) (m' := (f, l)) rfl rfl (fl_bo rfl) rfl ?_
        refine fl_Tq.stp (pc' := 80) (lv' := [some (.inr (.inr (.inl (76, 277)))), some (.inl (Int32.ofNat k)), some (.inl ((79 : Int32) + ((5 : Int32) * (Int32.ofNat k)))), some (.inl (r_is_v f (f 280 (79 + (5 * k)))))]) (st' := [.inr (.inr (.inl (79, 280))), .inl (34 : Int32), .inr (.inr (.inl (79, 280)))]) (m' := (f, l)) rfl rfl (fl_bo rfl) rfl ?_
        refine fl_Tq.stp (pc' := 81) (lv' := [some (.inr (.inr (.inl (76, 277)))), some (.inl (Int32.ofNat k)), some (.inl ((79 : Int32) + ((5 : Int32) * (Int32.ofNat k)))), some (.inl (r_is_v f (f 280 (79 + (5 * k)))))]) (st' := [.inl ((79 : Int32) + ((5 : Int32) * (Int32.ofNat k))), .inr (.inr (.inl (79, 280))), .inl (34 : Int32), .inr (.inr (.inl (79, 280)))]) (m' := (f, l)) rfl rfl (fl_bo rfl) rfl ?_
        refine fl_Tq.cI (c := (3 : Int32)) rfl (by decide +kernel) (fl_bo rfl) ?_
        refine fl_Tq.stp (pc' := 83) (lv' := [some (.inr (.inr (.inl (76, 277)))), some (.inl (Int32.ofNat k)), some (.inl ((79 : Int32) + ((5 : Int32) * (Int32.ofNat k)))), some (.inl (r_is_v f (f 280 (79 + (5 * k)))))]) (st' := [.inl (((79 : Int32) + ((5 : Int32) * (Int32.ofNat k))) + (3 : Int32)), .inr (.inr (.inl (79, 280))), .inl (34 : Int32), .inr (.inr (.inl (79, 280)))]) (m' := (f, l)) rfl rfl (fl_bo rfl) rfl ?_
        refine fl_Tq.ldV (p := 280) (τ := 79) (n := 29780) (z := (0, 0, 0)) (k := (79 + (5 * k)) + 3) (v := f 280 ((79 + (5 * k)) + 3)) rfl (fl_bo rfl) rfl (t2_ia (t2_ia (by decide +kernel) (t2_im (by decide +kernel) (at_ofN (by omega)) (by omega)) (by omega)) (by decide +kernel) (by omega)) (by omega) rfl ?_
        refine fl_Tq.stp (pc' := 85) (lv' := [some (.inr (.inr (.inl (76, 277)))), some (.inl (Int32.ofNat k)), some (.inl ((79 : Int32) + ((5 : Int32) * (Int32.ofNat k)))), some (.inl (r_is_v f (f 280 (79 + (5 * k)))))]) (st' := [.inl ((34 : Int32) + (f 280 ((79 + (5 * k)) + 3))), .inr (.inr (.inl (79, 280)))]) (m' := (f, l)) rfl rfl (fl_bo rfl) rfl ?_
        refine fl_Tq.stp (pc' := 86) (lv' := [some (.inr (.inr (.inl (76, 277)))), some (.inl (Int32.ofNat k)), some (.inl ((79 : Int32) + ((5 : Int32) * (Int32.ofNat k)))), some (.inl (r_is_v f (f 280 (79 + (5 * k)))))]) (st' := [.inr (.inr (.inl (76, 277))), .inl ((34 : Int32) + (f 280 ((79 + (5 * k)) + 3))), .inr (.inr (.inl (79, 280)))]) (m' := (f, l)) rfl rfl (fl_bo rfl) rfl ?_
        refine fl_Tq.stp (pc' := 89) (lv' := [some (.inr (.inr (.inl (76, 277)))), some (.inl (Int32.ofNat k)), some (.inl ((79 : Int32) + ((5 : Int32) * (Int32.ofNat k)))), some (.inl (r_is_v f (f 280 (79 + (5 * k)))))]) (st' := [.inr (.inr (.inl (79, 280))), .inl ((34 : Int32) + (f 280 ((79 + (5 * k)) + 3))), .inr (.inr (.inl (79, 280)))]) (m' := (f, l)) rfl rfl (fl_bo rfl) rfl ?_
        refine fl_Tq.stp (pc' := 90) (lv' := [some (.inr (.inr (.inl (76, 277)))), some (.inl (Int32.ofNat k)), some (.inl ((79 : Int32) + ((5 : Int32) * (Int32.ofNat k)))), some (.inl (r_is_v f (f 280 (79 + (5 * k)))))]) (st' := [.inl ((79 : Int32) + ((5 : Int32) * (Int32.ofNat k))), .inr (.inr (.inl (79, 280))), .inl ((34 : Int32) + (f 280 ((79 + (5 * k)) + 3))), .inr (.inr (.inl (79, 280)))]) (m' := (f, l)) rfl rfl (fl_bo rfl) rfl ?_
        refine fl_Tq.cI (c := (4 : Int32)) rfl (by decide +kernel) (fl_bo rfl) ?_
        refine fl_Tq.stp (pc' := 92) (lv' := [some (.inr (.inr (.inl (76, 277)))), some (.inl (Int32.ofNat k)), some (.inl ((79 : Int32) + ((5 : Int32) * (Int32.ofNat k)))), some (.inl (r_is_v f (f 280 (79 + (5 * k)))))]) (st' := [.inl (((79 : Int32) + ((5 : Int32) * (Int32.ofNat k))) + (4 : Int32)), .inr (.inr (.inl (79, 280))), .inl ((34 : Int32) + (f 280 ((79 + (5 * k)) + 3))), .inr (.inr (.inl (79, 280)))]) (m' := (f, l)) rfl rfl (fl_bo rfl) rfl ?_
        refine fl_Tq.ldV (p := 280) (τ := 79) (n := 29780) (z := (0, 0, 0)) (k := (79 + (5 * k)) + 4) (v := f 280 ((79 + (5 * k)) + 4)) rfl (fl_bo rfl) rfl (t2_ia (t2_ia (by decide +kernel) (t2_im (by decide +kernel) (at_ofN (by omega)) (by omega)) (by omega)) (by decide +kernel) (by omega)) (by omega) rfl ?_
        refine fl_Tq.svV (p := 280) (τ := 79) (n := 29780) (z := (0, 0, 0)) (k := 34 + ((f 280 ((79 + (5 * k)) + 3)).toInt.toNat)) (m' := (fl_row f 280 (upd (f 280) (34 + ((f 280 ((79 + (5 * k)) + 3)).toInt.toNat)) (f 280 ((79 + (5 * k)) + 4))), l)) rfl (fl_bo rfl) rfl (t2_ia (by decide +kernel) (t2_nn hru.1) (by omega)) (by omega) (t2_upn rfl) ?_
        have e0 : (fl_row f 280 (upd (f 280) (34 + ((f 280 ((79 + (5 * k)) + 3)).toInt.toNat)) (r_goRules_b2_j40_0 f k))) = fl_row f 280 (upd (f 280) (34 + ((f 280 ((79 + (5 * k)) + 3)).toInt.toNat)) (f 280 ((79 + (5 * k)) + 4))) := by
          simp only [r_goRules_b2_j40_0, if_pos h1, if_pos h2]
        rw [e0] at hJ
        exact hJ
      · refine fl_Tq.jt rfl (fl_bo rfl) (c2_le_t h2) rfl ?_
        have e0 : (fl_row f 280 (upd (f 280) (34 + ((f 280 ((79 + (5 * k)) + 3)).toInt.toNat)) (r_goRules_b2_j40_0 f k))) = f := by
          simp only [r_goRules_b2_j40_0, if_pos h1, if_neg h2]
          funext q j
          simp only [fl_row, upd]
          repeat' split
          all_goals first | rfl | simp_all
        rw [e0] at hJ
        exact hJ
    · refine fl_Tq.jt rfl (fl_bo rfl) (c2_ne_t h1) rfl ?_
      refine fl_Tq.stp (pc' := 59) (lv' := [some (.inr (.inr (.inl (76, 277)))), some (.inl (Int32.ofNat k)), some (.inl ((79 : Int32) + ((5 : Int32) * (Int32.ofNat k)))), some (.inl (r_is_v f (f 280 (79 + (5 * k)))))]) (st' := [.inl (r_is_v f (f 280 (79 + (5 * k))))]) (m' := (f, l)) rfl rfl (fl_bo rfl) rfl ?_
      refine fl_Tq.stp (pc' := 60) (lv' := [some (.inr (.inr (.inl (76, 277)))), some (.inl (Int32.ofNat k)), some (.inl ((79 : Int32) + ((5 : Int32) * (Int32.ofNat k)))), some (.inl (r_is_v f (f 280 (79 + (5 * k)))))]) (st' := [.inr (.inr (.inl (76, 277))), .inl (r_is_v f (f 280 (79 + (5 * k))))]) (m' := (f, l)) rfl rfl (fl_bo rfl) rfl ?_
      refine fl_Tq.stp (pc' := 63) (lv' := [some (.inr (.inr (.inl (76, 277)))), some (.inl (Int32.ofNat k)), some (.inl ((79 : Int32) + ((5 : Int32) * (Int32.ofNat k)))), some (.inl (r_is_v f (f 280 (79 + (5 * k)))))]) (st' := [.inr (.inr (.inl (79, 280))), .inl (r_is_v f (f 280 (79 + (5 * k))))]) (m' := (f, l)) rfl rfl (fl_bo rfl) rfl ?_
      refine fl_Tq.stp (pc' := 64) (lv' := [some (.inr (.inr (.inl (76, 277)))), some (.inl (Int32.ofNat k)), some (.inl ((79 : Int32) + ((5 : Int32) * (Int32.ofNat k)))), some (.inl (r_is_v f (f 280 (79 + (5 * k)))))]) (st' := [.inl ((79 : Int32) + ((5 : Int32) * (Int32.ofNat k))), .inr (.inr (.inl (79, 280))), .inl (r_is_v f (f 280 (79 + (5 * k))))]) (m' := (f, l)) rfl rfl (fl_bo rfl) rfl ?_
      refine fl_Tq.cI (c := (2 : Int32)) rfl (by decide +kernel) (fl_bo rfl) ?_
      refine fl_Tq.stp (pc' := 66) (lv' := [some (.inr (.inr (.inl (76, 277)))), some (.inl (Int32.ofNat k)), some (.inl ((79 : Int32) + ((5 : Int32) * (Int32.ofNat k)))), some (.inl (r_is_v f (f 280 (79 + (5 * k)))))]) (st' := [.inl (((79 : Int32) + ((5 : Int32) * (Int32.ofNat k))) + (2 : Int32)), .inr (.inr (.inl (79, 280))), .inl (r_is_v f (f 280 (79 + (5 * k))))]) (m' := (f, l)) rfl rfl (fl_bo rfl) rfl ?_
      refine fl_Tq.ldV (p := 280) (τ := 79) (n := 29780) (z := (0, 0, 0)) (k := (79 + (5 * k)) + 2) (v := f 280 ((79 + (5 * k)) + 2)) rfl (fl_bo rfl) rfl (t2_ia (t2_ia (by decide +kernel) (t2_im (by decide +kernel) (at_ofN (by omega)) (by omega)) (by omega)) (by decide +kernel) (by omega)) (by omega) rfl ?_
      by_cases h3 : (r_is_v f (f 280 (79 + (5 * k)))).toInt < (f 280 ((79 + (5 * k)) + 2)).toInt
      · refine fl_Tq.jf rfl (fl_bo rfl) (c2_ge_f h3) rfl ?_
        refine fl_Tq.stp (pc' := 71) (lv' := [some (.inr (.inr (.inl (76, 277)))), some (.inl (Int32.ofNat k)), some (.inl ((79 : Int32) + ((5 : Int32) * (Int32.ofNat k)))), some (.inl (r_is_v f (f 280 (79 + (5 * k)))))]) (st' := [.inr (.inr (.inl (76, 277)))]) (m' := (f, l)) rfl rfl (fl_bo rfl) rfl ?_
        refine fl_Tq.stp (pc' := 74) (lv' := [some (.inr (.inr (.inl (76, 277)))), some (.inl (Int32.ofNat k)), some (.inl ((79 : Int32) + ((5 : Int32) * (Int32.ofNat k)))), some (.inl (r_is_v f (f 280 (79 + (5 * k)))))]) (st' := [.inr (.inr (.inl (79, 280)))]) (m' := (f, l)) rfl rfl (fl_bo rfl) rfl ?_
        refine fl_Tq.cB (c := (34 : Int32)) rfl (by decide +kernel) (fl_bo rfl) ?_
        refine fl_Tq.stp (pc' := 77) (lv' := [some (.inr (.inr (.inl (76, 277)))), some (.inl (Int32.ofNat k)), some (.inl ((79 : Int32) + ((5 : Int32) * (Int32.ofNat k)))), some (.inl (r_is_v f (f 280 (79 + (5 * k)))))]) (st' := [.inr (.inr (.inl (76, 277))), .inl (34 : Int32), .inr (.inr (.inl (79, 280)))]) (m' := (f, l)) rfl rfl (fl_bo rfl) rfl ?_
        refine fl_Tq.stp (pc' := 80) (lv' := [some (.inr (.inr (.inl (76, 277)))), some (.inl (Int32.ofNat k)), some (.inl ((79 : Int32) + ((5 : Int32) * (Int32.ofNat k)))), some (.inl (r_is_v f (f 280 (79 + (5 * k)))))]) (st' := [.inr (.inr (.inl (79, 280))), .inl (34 : Int32), .inr (.inr (.inl (79, 280)))]) (m' := (f, l)) rfl rfl (fl_bo rfl) rfl ?_
        refine fl_Tq.stp (pc' := 81) (lv' := [some (.inr (.inr (.inl (76, 277)))), some (.inl (Int32.ofNat k)), some (.inl ((79 : Int32) + ((5 : Int32) * (Int32.ofNat k)))), some (.inl (r_is_v f (f 280 (79 + (5 * k)))))]) (st' := [.inl ((79 : Int32) + ((5 : Int32) * (Int32.ofNat k))), .inr (.inr (.inl (79, 280))), .inl (34 : Int32), .inr (.inr (.inl (79, 280)))]) (m' := (f, l)) rfl rfl (fl_bo rfl) rfl ?_
        refine fl_Tq.cI (c := (3 : Int32)) rfl (by decide +kernel) (fl_bo rfl) ?_
        refine fl_Tq.stp (pc' := 83) (lv' := [some (.inr (.inr (.inl (76, 277)))), some (.inl (Int32.ofNat k)), some (.inl ((79 : Int32) + ((5 : Int32) * (Int32.ofNat k)))), some (.inl (r_is_v f (f 280 (79 + (5 * k)))))]) (st' := [.inl (((79 : Int32) + ((5 : Int32) * (Int32.ofNat k))) + (3 : Int32)), .inr (.inr (.inl (79, 280))), .inl (34 : Int32), .inr (.inr (.inl (79, 280)))]) (m' := (f, l)) rfl rfl (fl_bo rfl) rfl ?_
        refine fl_Tq.ldV (p := 280) (τ := 79) (n := 29780) (z := (0, 0, 0)) (k := (79 + (5 * k)) + 3) (v := f 280 ((79 + (5 * k)) + 3)) rfl (fl_bo rfl) rfl (t2_ia (t2_ia (by decide +kernel) (t2_im (by decide +kernel) (at_ofN (by omega)) (by omega)) (by omega)) (by decide +kernel) (by omega)) (by omega) rfl ?_
        refine fl_Tq.stp (pc' := 85) (lv' := [some (.inr (.inr (.inl (76, 277)))), some (.inl (Int32.ofNat k)), some (.inl ((79 : Int32) + ((5 : Int32) * (Int32.ofNat k)))), some (.inl (r_is_v f (f 280 (79 + (5 * k)))))]) (st' := [.inl ((34 : Int32) + (f 280 ((79 + (5 * k)) + 3))), .inr (.inr (.inl (79, 280)))]) (m' := (f, l)) rfl rfl (fl_bo rfl) rfl ?_
        refine fl_Tq.stp (pc' := 86) (lv' := [some (.inr (.inr (.inl (76, 277)))), some (.inl (Int32.ofNat k)), some (.inl ((79 : Int32) + ((5 : Int32) * (Int32.ofNat k)))), some (.inl (r_is_v f (f 280 (79 + (5 * k)))))]) (st' := [.inr (.inr (.inl (76, 277))), .inl ((34 : Int32) + (f 280 ((79 + (5 * k)) + 3))), .inr (.inr (.inl (79, 280)))]) (m' := (f, l)) rfl rfl (fl_bo rfl) rfl ?_
        refine fl_Tq.stp (pc' := 89) (lv' := [some (.inr (.inr (.inl (76, 277)))), some (.inl (Int32.ofNat k)), some (.inl ((79 : Int32) + ((5 : Int32) * (Int32.ofNat k)))), some (.inl (r_is_v f (f 280 (79 + (5 * k)))))]) (st' := [.inr (.inr (.inl (79, 280))), .inl ((34 : Int32) + (f 280 ((79 + (5 * k)) + 3))), .inr (.inr (.inl (79, 280)))]) (m' := (f, l)) rfl rfl (fl_bo rfl) rfl ?_
        refine fl_Tq.stp (pc' := 90) (lv' := [some (.inr (.inr (.inl (76, 277)))), some (.inl (Int32.ofNat k)), some (.inl ((79 : Int32) + ((5 : Int32) * (Int32.ofNat k)))), some (.inl (r_is_v f (f 280 (79 + (5 * k)))))]) (st' := [.inl ((79 : Int32) + ((5 : Int32) * (Int32.ofNat k))), .inr (.inr (.inl (79, 280))), .inl ((34 : Int32) + (f 280 ((79 + (5 * k)) + 3))), .inr (.inr (.inl (79, 280)))]) (m' := (f, l)) rfl rfl (fl_bo rfl) rfl ?_
        refine fl_Tq.cI (c := (4 : Int32)) rfl (by decide +kernel) (fl_bo rfl) ?_
        refine fl_Tq.stp (pc' := 92) (lv' := [some (.inr (.inr (.inl (76, 277)))), some (.inl (Int32.ofNat k)), some (.inl ((79 : Int32) + ((5 : Int32) * (Int32.ofNat k)))), some (.inl (r_is_v f (f 280 (79 + (5 * k)))))]) (st' := [.inl (((79 : Int32) + ((5 : Int32) * (Int32.ofNat k))) + (4 : Int32)), .inr (.inr (.inl (79, 280))), .inl ((34 : Int32) + (f 280 ((79 + (5 * k)) + 3))), .inr (.inr (.inl (79, 280)))]) (m' := (f, l)) rfl rfl (fl_bo rfl) rfl ?_
        refine fl_Tq.ldV (p := 280) (τ := 79) (n := 29780) (z := (0, 0, 0)) (k := (79 + (5 * k)) + 4) (v := f 280 ((79 + (5 * k)) + 4)) rfl (fl_bo rfl) rfl (t2_ia (t2_ia (by decide +kernel) (t2_im (by decide +kernel) (at_ofN (by omega)) (by omega)) (by omega)) (by decide +kernel) (by omega)) (by omega) rfl ?_
        refine fl_Tq.svV (p := 280) (τ := 79) (n := 29780) (z := (0, 0, 0)) (k := 34 + ((f 280 ((79 + (5 * k)) + 3)).toInt.toNat)) (m' := (fl_row f 280 (upd (f 280) (34 + ((f 280 ((79 + (5 * k)) + 3)).toInt.toNat)) (f 280 ((79 + (5 * k)) + 4))), l)) rfl (fl_bo rfl) rfl (t2_ia (by decide +kernel) (t2_nn hru.1) (by omega)) (by omega) (t2_upn rfl) ?_
        have e0 : (fl_row f 280 (upd (f 280) (34 + ((f 280 ((79 + (5 * k)) + 3)).toInt.toNat)) (r_goRules_b2_j40_0 f k))) = fl_row f 280 (upd (f 280) (34 + ((f 280 ((79 + (5 * k)) + 3)).toInt.toNat)) (f 280 ((79 + (5 * k)) + 4))) := by
          simp only [r_goRules_b2_j40_0, if_neg h1, if_pos h3]
        rw [e0] at hJ
        exact hJ
      · refine fl_Tq.jt rfl (fl_bo rfl) (c2_ge_t h3) rfl ?_
        have e0 : (fl_row f 280 (upd (f 280) (34 + ((f 280 ((79 + (5 * k)) + 3)).toInt.toNat)) (r_goRules_b2_j40_0 f k))) = f := by
          simp only [r_goRules_b2_j40_0, if_neg h1, if_neg h3]
          funext q j
          simp only [fl_row, upd]
          repeat' split
          all_goals first | rfl | simp_all
        rw [e0] at hJ
        exact hJ
  refine hj97 ?_
  show fl_Tq _ 236 94 [some (.inr (.inr (.inl (76, 277)))), some (.inl (Int32.ofNat k)), some (.inl ((79 : Int32) + ((5 : Int32) * (Int32.ofNat k)))), some (.inl (r_is_v f (f 280 (79 + (5 * k)))))] [] (fl_row f 280 (upd (f 280) (34 + ((f 280 ((79 + (5 * k)) + 3)).toInt.toNat)) (r_goRules_b2_j40_0 f k)), l) _
  refine fl_Tq.stp (pc' := 97) (lv' := [some (.inr (.inr (.inl (76, 277)))), some (.inl ((Int32.ofNat k) + (1 : Int32))), some (.inl ((79 : Int32) + ((5 : Int32) * (Int32.ofNat k)))), some (.inl (r_is_v f (f 280 (79 + (5 * k)))))]) (st' := []) (m' := (fl_row f 280 (upd (f 280) (34 + ((f 280 ((79 + (5 * k)) + 3)).toInt.toNat)) (r_goRules_b2_j40_0 f k)), l)) rfl rfl (fl_bo rfl) rfl ?_
  refine fl_Tq.stp (pc' := 2) (lv' := [some (.inr (.inr (.inl (76, 277)))), some (.inl ((Int32.ofNat k) + (1 : Int32))), some (.inl ((79 : Int32) + ((5 : Int32) * (Int32.ofNat k)))), some (.inl (r_is_v f (f 280 (79 + (5 * k)))))]) (st' := []) (m' := (fl_row f 280 (upd (f 280) (34 + ((f 280 ((79 + (5 * k)) + 3)).toInt.toNat)) (r_goRules_b2_j40_0 f k)), l)) rfl rfl (fl_bo rfl) rfl ?_
  have em : r_goRules_b2_m f k = fl_row f 280 (upd (f 280) (34 + ((f 280 ((79 + (5 * k)) + 3)).toInt.toNat)) (r_goRules_b2_j40_0 f k)) := rfl
  rw [em, ← t2_k1] at hS
  exact fl_Tq.fg hS ⟨rfl, rfl, True.intro⟩
noncomputable def r_goRules_f2 (f : t2_F)  : Nat → t2_F
  | 0 => f
  | k + 1 => r_goRules_b2_m (r_goRules_f2 f k) k
theorem r_goRules_f2_fr {f : t2_F}  {p : Nat} : ∀ {k : Nat}  (e280 : p ≠ 280), r_goRules_f2 f k p = f p := by
  intro k
  induction k with
  | zero => intros; rfl
  | succ k ih =>
    intro  e280
    exact (r_goRules_b2_fr  e280).trans (ih  e280)
theorem r_goRules_f2_w {f : t2_F} (hrn : 0 ≤ (f 280 18).toInt ∧ (f 280 18).toInt ≤ 8) (hru : ∀ k : Nat, k < 8 → 0 ≤ (f 280 ((79 + (5 * k)) + 3)).toInt ∧ (f 280 ((79 + (5 * k)) + 3)).toInt ≤ 29) : ∀ {k : Nat} (hkb : k ≤ 8) {w : Nat} (hw : w < 34 ∨ 64 ≤ w), r_goRules_f2 f k 280 w = f 280 w := by
  intro k
  induction k with
  | zero => intros; rfl
  | succ k ih =>
    intro hkb w hw
    have ih := @ih (by omega)
    refine (r_goRules_b2_w ?_ hw).trans (ih hw)
    rw [ih (by omega)]
    exact hru k (by omega)
noncomputable def r_goRules_m (f : t2_F) : t2_F := r_goRules_f2 f ((f 280 18).toInt.toNat)
theorem r_goRules_q {L : Nat} {xs : Nat → Int32} {f : t2_F} {l : t2_L} {Q : Option fl_V → fl_M → Prop}  (hn : 0 ≤ (f 280 2).toInt ∧ (f 280 2).toInt ≤ 16) (hr : t2_RS f) (hk : ∀ C : Nat, (C : Int) < (f 280 2).toInt → t2_ck f C) (hrn : 0 ≤ (f 280 18).toInt ∧ (f 280 18).toInt ≤ 8) (hru : ∀ k : Nat, k < 8 → 0 ≤ (f 280 ((79 + (5 * k)) + 3)).toInt ∧ (f 280 ((79 + (5 * k)) + 3)).toInt ≤ 29) (k : Q none (r_goRules_m f, l)) : fl_Tq (pw_P L xs) 236 0 (fl_args (am_mxl (pw_P L xs) 236) [.inr (.inr (.inl (76, 277)))]) [] (f, l) Q := by
  refine fl_Tq.cI (c := (0 : Int32)) rfl (by decide +kernel) (fl_bo rfl) ?_
  refine fl_Tq.stp (pc' := 2) (lv' := [some (.inr (.inr (.inl (76, 277)))), some (.inl (0 : Int32)), none, none]) (st' := []) (m' := (f, l)) rfl rfl (fl_bo rfl) rfl ?_
  have hs2 : ∀ k : Nat, k < (f 280 18).toInt.toNat → fl_Tq (pw_P L xs) 236 2 [some (.inr (.inr (.inl (76, 277)))), some (.inl (Int32.ofNat (k + 1))), none, none] [] (r_goRules_f2 f (k + 1), l) Q → fl_Tq (pw_P L xs) 236 2 [some (.inr (.inr (.inl (76, 277)))), some (.inl (Int32.ofNat k)), none, none] [] (r_goRules_f2 f k, l) Q := fun k hkn hS => r_goRules_b2_q hkn (by rw [r_goRules_f2_w hrn hru (k := k) (by omega) (w := 18) (by omega)]; exact t2_nn hrn.1) (by omega) (by rw [r_goRules_f2_w hrn hru (k := k) (by omega) (w := 2) (by omega)]; exact hn) (fun j => by rw [r_goRules_f2_fr (by decide)]; exact hr j) (fun C hC => by rw [r_goRules_f2_w hrn hru (k := k) (by omega) (w := 2) (by omega)] at hC; unfold t2_ck; rw [r_goRules_f2_w hrn hru (k := k) (by omega) (w := 444 + 61 * C + 0) (by omega), r_goRules_f2_w hrn hru (k := k) (by omega) (w := 444 + 61 * C + 1) (by omega)]; exact hk C hC) (by rw [r_goRules_f2_w hrn hru (k := k) (by omega) (w := (79 + (5 * k)) + 3) (by omega)]; exact hru k (by omega)) hS
  refine t2_for (S := fun k => fl_Tq (pw_P L xs) 236 2 [some (.inr (.inr (.inl (76, 277)))), some (.inl (Int32.ofNat k)), none, none] [] (r_goRules_f2 f k, l) Q) hs2 ?_
  show fl_Tq (pw_P L xs) 236 2 [some (.inr (.inr (.inl (76, 277)))), some (.inl (Int32.ofNat ((f 280 18).toInt.toNat))), none, none] [] (r_goRules_f2 f ((f 280 18).toInt.toNat), l) _
  refine fl_Tq.stp (pc' := 3) (lv' := [some (.inr (.inr (.inl (76, 277)))), some (.inl (Int32.ofNat ((f 280 18).toInt.toNat))), none, none]) (st' := [.inl (Int32.ofNat ((f 280 18).toInt.toNat))]) (m' := (r_goRules_f2 f ((f 280 18).toInt.toNat), l)) rfl rfl (fl_bo rfl) rfl ?_
  refine fl_Tq.stp (pc' := 4) (lv' := [some (.inr (.inr (.inl (76, 277)))), some (.inl (Int32.ofNat ((f 280 18).toInt.toNat))), none, none]) (st' := [.inr (.inr (.inl (76, 277))), .inl (Int32.ofNat ((f 280 18).toInt.toNat))]) (m' := (r_goRules_f2 f ((f 280 18).toInt.toNat), l)) rfl rfl (fl_bo rfl) rfl ?_
  refine fl_Tq.stp (pc' := 7) (lv' := [some (.inr (.inr (.inl (76, 277)))), some (.inl (Int32.ofNat ((f 280 18).toInt.toNat))), none, none]) (st' := [.inr (.inr (.inl (79, 280))), .inl (Int32.ofNat ((f 280 18).toInt.toNat))]) (m' := (r_goRules_f2 f ((f 280 18).toInt.toNat), l)) rfl rfl (fl_bo rfl) rfl ?_
  refine fl_Tq.cB (c := (18 : Int32)) rfl (by decide +kernel) (fl_bo rfl) ?_
  refine fl_Tq.ldV (p := 280) (τ := 79) (n := 29780) (z := (0, 0, 0)) (k := 18) (v := f 280 18) rfl (fl_bo rfl) rfl (by decide +kernel) (by decide) (by simp only [r_goRules_f2_w hrn hru (f := f) (k := (f 280 18).toInt.toNat) (w := 18) (by omega) (by omega)]) ?_
  refine fl_Tq.jt rfl (fl_bo rfl) (c2_ge_t (t2_ln (t2_nn hrn.1))) rfl ?_
  exact fl_Tq.ret rfl rfl rfl k
theorem r_goRules_w {f : t2_F} (hrn : 0 ≤ (f 280 18).toInt ∧ (f 280 18).toInt ≤ 8) (hru : ∀ k : Nat, k < 8 → 0 ≤ (f 280 ((79 + (5 * k)) + 3)).toInt ∧ (f 280 ((79 + (5 * k)) + 3)).toInt ≤ 29) {w : Nat} (hw : w < 34 ∨ 64 ≤ w) : r_goRules_m f 280 w = f 280 w := r_goRules_f2_w hrn hru (by omega) hw
theorem r_goRules_fr {f : t2_F} {p : Nat} (e280 : p ≠ 280) : r_goRules_m f p = f p := r_goRules_f2_fr e280

