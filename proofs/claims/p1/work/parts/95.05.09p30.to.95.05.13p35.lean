/-! 95.05.09p30.lean.txt -/
section
noncomputable def x_warnings_a18 (f : t2_F) : Nat → Int32
  | 0 => (0 : Int32)
  | k18 + 1 => (x_warnings_a18 f k18) ||| (c0_warningBits_v f k18 (f 1 9) (f 4 26))
noncomputable def x_warnings_v (f : t2_F) : Int32 := if (if 0 < (f 1 5).toInt then (if ((f 4 17) - (f 4 26)).toInt < (c0_partSpread_v f).toInt then (1 : Int32) else (0 : Int32)) else (0 : Int32)).toInt = 0 then x_warnings_a18 f ((f 1 5).toInt.toNat) else (x_warnings_a18 f ((f 1 5).toInt.toNat)) ||| (128 : Int32)
theorem x_warnings_q {L : Nat} {xs : Nat → Int32} {f : t2_F} {l : t2_L} {Q : Option fl_V → fl_M → Prop}  (hc : 0 ≤ (f 1 5).toInt ∧ (f 1 5).toInt ≤ 16) (k : Q (some (.inl (x_warnings_v f))) (f, l)) : fl_Tq (pw_P L xs) 131 0 (fl_args (am_mxl (pw_P L xs) 131) [.inr (.inr (.inl (0, 0)))]) [] (f, l) Q := by
  refine fl_Tq.cI (c := (0 : Int32)) rfl (by decide +kernel) (fl_bo rfl) ?_
  refine fl_Tq.stp (pc' := 2) (lv' := [some (.inr (.inr (.inl (0, 0)))), some (.inl (0 : Int32)), none, none]) (st' := []) (m' := (f, l)) rfl rfl (fl_bo rfl) rfl ?_
  refine fl_Tq.stp (pc' := 3) (lv' := [some (.inr (.inr (.inl (0, 0)))), some (.inl (0 : Int32)), none, none]) (st' := [.inr (.inr (.inl (0, 0)))]) (m' := (f, l)) rfl rfl (fl_bo rfl) rfl ?_
  refine fl_Tq.stp (pc' := 6) (lv' := [some (.inr (.inr (.inl (0, 0)))), some (.inl (0 : Int32)), none, none]) (st' := [.inr (.inr (.inl (1, 1)))]) (m' := (f, l)) rfl rfl (fl_bo rfl) rfl ?_
  refine fl_Tq.stp (pc' := 9) (lv' := [some (.inr (.inr (.inl (0, 0)))), some (.inl (0 : Int32)), none, none]) (st' := [.inr (.inr (.inl (3, 3)))]) (m' := (f, l)) rfl rfl (fl_bo rfl) rfl ?_
  refine fl_Tq.stp (pc' := 12) (lv' := [some (.inr (.inr (.inl (0, 0)))), some (.inl (0 : Int32)), none, none]) (st' := [.inr (.inr (.inl (4, 4)))]) (m' := (f, l)) rfl rfl (fl_bo rfl) rfl ?_
  refine fl_Tq.cB (c := (26 : Int32)) rfl (by decide +kernel) (fl_bo rfl) ?_
  refine fl_Tq.ldV (p := 4) (τ := 4) (n := 30) (z := (0, 0, 0)) (k := 26) (v := f 4 26) rfl (fl_bo rfl) rfl (by decide +kernel) (by decide) rfl ?_
  refine fl_Tq.stp (pc' := 16) (lv' := [some (.inr (.inr (.inl (0, 0)))), some (.inl (0 : Int32)), some (.inl (f 4 26)), none]) (st' := []) (m' := (f, l)) rfl rfl (fl_bo rfl) rfl ?_
  refine fl_Tq.cI (c := (0 : Int32)) rfl (by decide +kernel) (fl_bo rfl) ?_
  refine fl_Tq.stp (pc' := 18) (lv' := [some (.inr (.inr (.inl (0, 0)))), some (.inl (0 : Int32)), some (.inl (f 4 26)), some (.inl (0 : Int32))]) (st' := []) (m' := (f, l)) rfl rfl (fl_bo rfl) rfl ?_
  have hs18 : ∀ k18 : Nat, k18 < (f 1 5).toInt.toNat → fl_Tq (pw_P L xs) 131 18 [some (.inr (.inr (.inl (0, 0)))), some (.inl (x_warnings_a18 f (k18 + 1))), some (.inl (f 4 26)), some (.inl (Int32.ofNat (k18 + 1)))] [] (f, l) Q → fl_Tq (pw_P L xs) 131 18 [some (.inr (.inr (.inl (0, 0)))), some (.inl (x_warnings_a18 f k18)), some (.inl (f 4 26)), some (.inl (Int32.ofNat k18))] [] (f, l) Q := by
    intro k18 hk18 hS
    refine fl_Tq.stp (pc' := 19) (lv' := [some (.inr (.inr (.inl (0, 0)))), some (.inl (x_warnings_a18 f k18)), some (.inl (f 4 26)), some (.inl (Int32.ofNat k18))]) (st' := [.inl (Int32.ofNat k18)]) (m' := (f, l)) rfl rfl (fl_bo rfl) rfl ?_
    refine fl_Tq.stp (pc' := 20) (lv' := [some (.inr (.inr (.inl (0, 0)))), some (.inl (x_warnings_a18 f k18)), some (.inl (f 4 26)), some (.inl (Int32.ofNat k18))]) (st' := [.inr (.inr (.inl (0, 0))), .inl (Int32.ofNat k18)]) (m' := (f, l)) rfl rfl (fl_bo rfl) rfl ?_
    refine fl_Tq.stp (pc' := 23) (lv' := [some (.inr (.inr (.inl (0, 0)))), some (.inl (x_warnings_a18 f k18)), some (.inl (f 4 26)), some (.inl (Int32.ofNat k18))]) (st' := [.inr (.inr (.inl (1, 1))), .inl (Int32.ofNat k18)]) (m' := (f, l)) rfl rfl (fl_bo rfl) rfl ?_
    refine fl_Tq.gfV (k := 5) (v := f 1 5) rfl (fl_bo rfl) rfl rfl ?_
    refine fl_Tq.jf rfl (fl_bo rfl) (c2_ge_f (t2_lk hk18 (t2_nn hc.1))) rfl ?_
    refine fl_Tq.stp (pc' := 30) (lv' := [some (.inr (.inr (.inl (0, 0)))), some (.inl (x_warnings_a18 f k18)), some (.inl (f 4 26)), some (.inl (Int32.ofNat k18))]) (st' := [.inl (x_warnings_a18 f k18)]) (m' := (f, l)) rfl rfl (fl_bo rfl) rfl ?_
    refine fl_Tq.stp (pc' := 31) (lv' := [some (.inr (.inr (.inl (0, 0)))), some (.inl (x_warnings_a18 f k18)), some (.inl (f 4 26)), some (.inl (Int32.ofNat k18))]) (st' := [.inr (.inr (.inl (0, 0))), .inl (x_warnings_a18 f k18)]) (m' := (f, l)) rfl rfl (fl_bo rfl) rfl ?_
    refine fl_Tq.stp (pc' := 34) (lv' := [some (.inr (.inr (.inl (0, 0)))), some (.inl (x_warnings_a18 f k18)), some (.inl (f 4 26)), some (.inl (Int32.ofNat k18))]) (st' := [.inr (.inr (.inl (1, 1))), .inl (x_warnings_a18 f k18)]) (m' := (f, l)) rfl rfl (fl_bo rfl) rfl ?_
    refine fl_Tq.stp (pc' := 37) (lv' := [some (.inr (.inr (.inl (0, 0)))), some (.inl (x_warnings_a18 f k18)), some (.inl (f 4 26)), some (.inl (Int32.ofNat k18))]) (st' := [.inr (.inr (.inl (2, 2))), .inl (x_warnings_a18 f k18)]) (m' := (f, l)) rfl rfl (fl_bo rfl) rfl ?_
    refine fl_Tq.stp (pc' := 38) (lv' := [some (.inr (.inr (.inl (0, 0)))), some (.inl (x_warnings_a18 f k18)), some (.inl (f 4 26)), some (.inl (Int32.ofNat k18))]) (st' := [.inl (Int32.ofNat k18), .inr (.inr (.inl (2, 2))), .inl (x_warnings_a18 f k18)]) (m' := (f, l)) rfl rfl (fl_bo rfl) rfl ?_
    refine fl_Tq.qld (p := 2) (τ := 2) (n := 16) (t := 18) (b := 16) (d := 3) (k := k18) rfl (fl_bo rfl) rfl (at_ofN (by omega)) (by omega) ?_
    show fl_Tq _ 131 39 [some (.inr (.inr (.inl (0, 0)))), some (.inl (x_warnings_a18 f k18)), some (.inl (f 4 26)), some (.inl (Int32.ofNat k18))] [.inr (.inr (.inl (18, 18 + 4 * k18))), .inl (x_warnings_a18 f k18)] (f, l) _
    refine fl_Tq.stp (pc' := 40) (lv' := [some (.inr (.inr (.inl (0, 0)))), some (.inl (x_warnings_a18 f k18)), some (.inl (f 4 26)), some (.inl (Int32.ofNat k18))]) (st' := [.inr (.inr (.inl (0, 0))), .inr (.inr (.inl (18, 18 + 4 * k18))), .inl (x_warnings_a18 f k18)]) (m' := (f, l)) rfl rfl (fl_oks_ok ⟨(t2_kc0 (by omega)), True.intro, True.intro⟩) rfl ?_
    refine fl_Tq.stp (pc' := 43) (lv' := [some (.inr (.inr (.inl (0, 0)))), some (.inl (x_warnings_a18 f k18)), some (.inl (f 4 26)), some (.inl (Int32.ofNat k18))]) (st' := [.inr (.inr (.inl (1, 1))), .inr (.inr (.inl (18, 18 + 4 * k18))), .inl (x_warnings_a18 f k18)]) (m' := (f, l)) rfl rfl (fl_oks_ok ⟨fl_okp (by decide +kernel) (by decide), (t2_kc0 (by omega)), True.intro, True.intro⟩) rfl ?_
    refine fl_Tq.gfV (k := 9) (v := f 1 9) rfl (fl_oks_ok ⟨fl_okp (by decide +kernel) (by decide), (t2_kc0 (by omega)), True.intro, True.intro⟩) rfl rfl ?_
    refine fl_Tq.stp (pc' := 47) (lv' := [some (.inr (.inr (.inl (0, 0)))), some (.inl (x_warnings_a18 f k18)), some (.inl (f 4 26)), some (.inl (Int32.ofNat k18))]) (st' := [.inr (.inr (.inl (0, 0))), .inl (f 1 9), .inr (.inr (.inl (18, 18 + 4 * k18))), .inl (x_warnings_a18 f k18)]) (m' := (f, l)) rfl rfl (fl_oks_ok ⟨True.intro, (t2_kc0 (by omega)), True.intro, True.intro⟩) rfl ?_
    refine fl_Tq.stp (pc' := 50) (lv' := [some (.inr (.inr (.inl (0, 0)))), some (.inl (x_warnings_a18 f k18)), some (.inl (f 4 26)), some (.inl (Int32.ofNat k18))]) (st' := [.inr (.inr (.inl (1, 1))), .inl (f 1 9), .inr (.inr (.inl (18, 18 + 4 * k18))), .inl (x_warnings_a18 f k18)]) (m' := (f, l)) rfl rfl (fl_oks_ok ⟨fl_okp (by decide +kernel) (by decide), True.intro, (t2_kc0 (by omega)), True.intro, True.intro⟩) rfl ?_
    refine fl_Tq.stp (pc' := 53) (lv' := [some (.inr (.inr (.inl (0, 0)))), some (.inl (x_warnings_a18 f k18)), some (.inl (f 4 26)), some (.inl (Int32.ofNat k18))]) (st' := [.inr (.inr (.inl (3, 3))), .inl (f 1 9), .inr (.inr (.inl (18, 18 + 4 * k18))), .inl (x_warnings_a18 f k18)]) (m' := (f, l)) rfl rfl (fl_oks_ok ⟨fl_okp (by decide +kernel) (by decide), True.intro, (t2_kc0 (by omega)), True.intro, True.intro⟩) rfl ?_
    refine fl_Tq.stp (pc' := 54) (lv' := [some (.inr (.inr (.inl (0, 0)))), some (.inl (x_warnings_a18 f k18)), some (.inl (f 4 26)), some (.inl (Int32.ofNat k18))]) (st' := [.inl (f 4 26), .inr (.inr (.inl (3, 3))), .inl (f 1 9), .inr (.inr (.inl (18, 18 + 4 * k18))), .inl (x_warnings_a18 f k18)]) (m' := (f, l)) rfl rfl (fl_oks_ok ⟨fl_okp (by decide +kernel) (by decide), True.intro, (t2_kc0 (by omega)), True.intro, True.intro⟩) rfl ?_
    refine fl_Tq.cal rfl rfl (fl_oks_ok ⟨True.intro, fl_okp (by decide +kernel) (by decide), True.intro, (t2_kc0 (by omega)), True.intro, True.intro⟩) rfl ?_
    refine c0_warningBits_q (by omega) ?_
    show fl_Tq _ 131 57 [some (.inr (.inr (.inl (0, 0)))), some (.inl (x_warnings_a18 f k18)), some (.inl (f 4 26)), some (.inl (Int32.ofNat k18))] [.inl (c0_warningBits_v f k18 (f 1 9) (f 4 26)), .inl (x_warnings_a18 f k18)] (f, l) _
    refine fl_Tq.stp (pc' := 58) (lv' := [some (.inr (.inr (.inl (0, 0)))), some (.inl (x_warnings_a18 f k18)), some (.inl (f 4 26)), some (.inl (Int32.ofNat k18))]) (st' := [.inl ((x_warnings_a18 f k18) ||| (c0_warningBits_v f k18 (f 1 9) (f 4 26)))]) (m' := (f, l)) rfl rfl (fl_bo rfl) rfl ?_
    refine fl_Tq.stp (pc' := 59) (lv' := [some (.inr (.inr (.inl (0, 0)))), some (.inl ((x_warnings_a18 f k18) ||| (c0_warningBits_v f k18 (f 1 9) (f 4 26)))), some (.inl (f 4 26)), some (.inl (Int32.ofNat k18))]) (st' := []) (m' := (f, l)) rfl rfl (fl_bo rfl) rfl ?_
    refine fl_Tq.stp (pc' := 62) (lv' := [some (.inr (.inr (.inl (0, 0)))), some (.inl ((x_warnings_a18 f k18) ||| (c0_warningBits_v f k18 (f 1 9) (f 4 26)))), some (.inl (f 4 26)), some (.inl ((Int32.ofNat k18) + (1 : Int32)))]) (st' := []) (m' := (f, l)) rfl rfl (fl_bo rfl) rfl ?_
    refine fl_Tq.stp (pc' := 18) (lv' := [some (.inr (.inr (.inl (0, 0)))), some (.inl ((x_warnings_a18 f k18) ||| (c0_warningBits_v f k18 (f 1 9) (f 4 26)))), some (.inl (f 4 26)), some (.inl ((Int32.ofNat k18) + (1 : Int32)))]) (st' := []) (m' := (f, l)) rfl rfl (fl_bo rfl) rfl ?_
    have ea : x_warnings_a18 f (k18 + 1) = (x_warnings_a18 f k18) ||| (c0_warningBits_v f k18 (f 1 9) (f 4 26)) := by
      show ((x_warnings_a18 f k18) ||| (c0_warningBits_v f k18 (f 1 9) (f 4 26))) = _
      rfl
    rw [ea, ← t2_k1] at hS
    exact hS
  refine t2_for (S := fun k18 => fl_Tq (pw_P L xs) 131 18 [some (.inr (.inr (.inl (0, 0)))), some (.inl (x_warnings_a18 f k18)), some (.inl (f 4 26)), some (.inl (Int32.ofNat k18))] [] (f, l) Q) hs18 ?_
  show fl_Tq (pw_P L xs) 131 18 [some (.inr (.inr (.inl (0, 0)))), some (.inl (x_warnings_a18 f ((f 1 5).toInt.toNat))), some (.inl (f 4 26)), some (.inl (Int32.ofNat ((f 1 5).toInt.toNat)))] [] (f, l) _
  refine fl_Tq.stp (pc' := 19) (lv' := [some (.inr (.inr (.inl (0, 0)))), some (.inl (x_warnings_a18 f ((f 1 5).toInt.toNat))), some (.inl (f 4 26)), some (.inl (Int32.ofNat ((f 1 5).toInt.toNat)))]) (st' := [.inl (Int32.ofNat ((f 1 5).toInt.toNat))]) (m' := (f, l)) rfl rfl (fl_bo rfl) rfl ?_
  refine fl_Tq.stp (pc' := 20) (lv' := [some (.inr (.inr (.inl (0, 0)))), some (.inl (x_warnings_a18 f ((f 1 5).toInt.toNat))), some (.inl (f 4 26)), some (.inl (Int32.ofNat ((f 1 5).toInt.toNat)))]) (st' := [.inr (.inr (.inl (0, 0))), .inl (Int32.ofNat ((f 1 5).toInt.toNat))]) (m' := (f, l)) rfl rfl (fl_bo rfl) rfl ?_
  refine fl_Tq.stp (pc' := 23) (lv' := [some (.inr (.inr (.inl (0, 0)))), some (.inl (x_warnings_a18 f ((f 1 5).toInt.toNat))), some (.inl (f 4 26)), some (.inl (Int32.ofNat ((f 1 5).toInt.toNat)))]) (st' := [.inr (.inr (.inl (1, 1))), .inl (Int32.ofNat ((f 1 5).toInt.toNat))]) (m' := (f, l)) rfl rfl (fl_bo rfl) rfl ?_
  refine fl_Tq.gfV (k := 5) (v := f 1 5) rfl (fl_bo rfl) rfl rfl ?_
  refine fl_Tq.jt rfl (fl_bo rfl) (c2_ge_t (t2_ln (t2_nn hc.1))) rfl ?_
  refine fl_Tq.stp (pc' := 66) (lv' := [some (.inr (.inr (.inl (0, 0)))), some (.inl (x_warnings_a18 f ((f 1 5).toInt.toNat))), some (.inl (f 4 26)), some (.inl (Int32.ofNat ((f 1 5).toInt.toNat)))]) (st' := [.inr (.inr (.inl (0, 0)))]) (m' := (f, l)) rfl rfl (fl_bo rfl) rfl ?_
  refine fl_Tq.stp (pc' := 69) (lv' := [some (.inr (.inr (.inl (0, 0)))), some (.inl (x_warnings_a18 f ((f 1 5).toInt.toNat))), some (.inl (f 4 26)), some (.inl (Int32.ofNat ((f 1 5).toInt.toNat)))]) (st' := [.inr (.inr (.inl (1, 1)))]) (m' := (f, l)) rfl rfl (fl_bo rfl) rfl ?_
  refine fl_Tq.gfV (k := 5) (v := f 1 5) rfl (fl_bo rfl) rfl rfl ?_
  have hj190 : fl_Tq (pw_P L xs) 131 105 [some (.inr (.inr (.inl (0, 0)))), some (.inl (x_warnings_a18 f ((f 1 5).toInt.toNat))), some (.inl (f 4 26)), some (.inl (Int32.ofNat ((f 1 5).toInt.toNat)))] [.inl (if 0 < (f 1 5).toInt then (if ((f 4 17) - (f 4 26)).toInt < (c0_partSpread_v f).toInt then (1 : Int32) else (0 : Int32)) else (0 : Int32))] (f, l) Q → fl_Tq (pw_P L xs) 131 72 [some (.inr (.inr (.inl (0, 0)))), some (.inl (x_warnings_a18 f ((f 1 5).toInt.toNat))), some (.inl (f 4 26)), some (.inl (Int32.ofNat ((f 1 5).toInt.toNat)))] [.inl (f 1 5)] (f, l) Q := by
    intro hJ
    by_cases h1 : 0 < (f 1 5).toInt
    · refine fl_Tq.zf rfl (fl_bo rfl) (c1_le_f h1) rfl ?_
      refine fl_Tq.stp (pc' := 76) (lv' := [some (.inr (.inr (.inl (0, 0)))), some (.inl (x_warnings_a18 f ((f 1 5).toInt.toNat))), some (.inl (f 4 26)), some (.inl (Int32.ofNat ((f 1 5).toInt.toNat)))]) (st' := [.inr (.inr (.inl (0, 0)))]) (m' := (f, l)) rfl rfl (fl_bo rfl) rfl ?_
      refine fl_Tq.stp (pc' := 79) (lv' := [some (.inr (.inr (.inl (0, 0)))), some (.inl (x_warnings_a18 f ((f 1 5).toInt.toNat))), some (.inl (f 4 26)), some (.inl (Int32.ofNat ((f 1 5).toInt.toNat)))]) (st' := [.inr (.inr (.inl (1, 1)))]) (m' := (f, l)) rfl rfl (fl_bo rfl) rfl ?_
      refine fl_Tq.cal rfl rfl (fl_bo rfl) rfl ?_
      refine c0_partSpread_q hc ?_
      show fl_Tq _ 131 82 [some (.inr (.inr (.inl (0, 0)))), some (.inl (x_warnings_a18 f ((f 1 5).toInt.toNat))), some (.inl (f 4 26)), some (.inl (Int32.ofNat ((f 1 5).toInt.toNat)))] [.inl (c0_partSpread_v f)] (f, l) _
      refine fl_Tq.stp (pc' := 83) (lv' := [some (.inr (.inr (.inl (0, 0)))), some (.inl (x_warnings_a18 f ((f 1 5).toInt.toNat))), some (.inl (f 4 26)), some (.inl (Int32.ofNat ((f 1 5).toInt.toNat)))]) (st' := [.inr (.inr (.inl (0, 0))), .inl (c0_partSpread_v f)]) (m' := (f, l)) rfl rfl (fl_bo rfl) rfl ?_
      refine fl_Tq.stp (pc' := 86) (lv' := [some (.inr (.inr (.inl (0, 0)))), some (.inl (x_warnings_a18 f ((f 1 5).toInt.toNat))), some (.inl (f 4 26)), some (.inl (Int32.ofNat ((f 1 5).toInt.toNat)))]) (st' := [.inr (.inr (.inl (1, 1))), .inl (c0_partSpread_v f)]) (m' := (f, l)) rfl rfl (fl_bo rfl) rfl ?_
      refine fl_Tq.stp (pc' := 89) (lv' := [some (.inr (.inr (.inl (0, 0)))), some (.inl (x_warnings_a18 f ((f 1 5).toInt.toNat))), some (.inl (f 4 26)), some (.inl (Int32.ofNat ((f 1 5).toInt.toNat)))]) (st' := [.inr (.inr (.inl (3, 3))), .inl (c0_partSpread_v f)]) (m' := (f, l)) rfl rfl (fl_bo rfl) rfl ?_
      refine fl_Tq.stp (pc' := 92) (lv' := [some (.inr (.inr (.inl (0, 0)))), some (.inl (x_warnings_a18 f ((f 1 5).toInt.toNat))), some (.inl (f 4 26)), some (.inl (Int32.ofNat ((f 1 5).toInt.toNat)))]) (st' := [.inr (.inr (.inl (4, 4))), .inl (c0_partSpread_v f)]) (m' := (f, l)) rfl rfl (fl_bo rfl) rfl ?_
      refine fl_Tq.cB (c := (17 : Int32)) rfl (by decide +kernel) (fl_bo rfl) ?_
      refine fl_Tq.ldV (p := 4) (τ := 4) (n := 30) (z := (0, 0, 0)) (k := 17) (v := f 4 17) rfl (fl_bo rfl) rfl (by decide +kernel) (by decide) rfl ?_
      refine fl_Tq.stp (pc' := 96) (lv' := [some (.inr (.inr (.inl (0, 0)))), some (.inl (x_warnings_a18 f ((f 1 5).toInt.toNat))), some (.inl (f 4 26)), some (.inl (Int32.ofNat ((f 1 5).toInt.toNat)))]) (st' := [.inl (f 4 26), .inl (f 4 17), .inl (c0_partSpread_v f)]) (m' := (f, l)) rfl rfl (fl_bo rfl) rfl ?_
      refine fl_Tq.stp (pc' := 97) (lv' := [some (.inr (.inr (.inl (0, 0)))), some (.inl (x_warnings_a18 f ((f 1 5).toInt.toNat))), some (.inl (f 4 26)), some (.inl (Int32.ofNat ((f 1 5).toInt.toNat)))]) (st' := [.inl ((f 4 17) - (f 4 26)), .inl (c0_partSpread_v f)]) (m' := (f, l)) rfl rfl (fl_bo rfl) rfl ?_
      by_cases h2 : ((f 4 17) - (f 4 26)).toInt < (c0_partSpread_v f).toInt
      · refine fl_Tq.jf rfl (fl_bo rfl) (c2_le_f h2) rfl ?_
        refine fl_Tq.cI (c := (1 : Int32)) rfl (by decide +kernel) (fl_bo rfl) ?_
        refine fl_Tq.stp (pc' := 105) (lv' := [some (.inr (.inr (.inl (0, 0)))), some (.inl (x_warnings_a18 f ((f 1 5).toInt.toNat))), some (.inl (f 4 26)), some (.inl (Int32.ofNat ((f 1 5).toInt.toNat)))]) (st' := [.inl (1 : Int32)]) (m' := (f, l)) rfl rfl (fl_bo rfl) rfl ?_
        have e0 : (if 0 < (f 1 5).toInt then (if ((f 4 17) - (f 4 26)).toInt < (c0_partSpread_v f).toInt then (1 : Int32) else (0 : Int32)) else (0 : Int32)) = (1 : Int32) := by simp only [if_pos h1, if_pos h2]
        rw [e0] at hJ
        exact hJ
      · refine fl_Tq.jt rfl (fl_bo rfl) (c2_le_t h2) rfl ?_
        refine fl_Tq.cI (c := (0 : Int32)) rfl (by decide +kernel) (fl_bo rfl) ?_
        have e0 : (if 0 < (f 1 5).toInt then (if ((f 4 17) - (f 4 26)).toInt < (c0_partSpread_v f).toInt then (1 : Int32) else (0 : Int32)) else (0 : Int32)) = (0 : Int32) := by simp only [if_pos h1, if_neg h2]
        rw [e0] at hJ
        exact hJ
    · refine fl_Tq.zt rfl (fl_bo rfl) (c1_le_t h1) rfl ?_
      refine fl_Tq.cI (c := (0 : Int32)) rfl (by decide +kernel) (fl_bo rfl) ?_
      have e0 : (if 0 < (f 1 5).toInt then (if ((f 4 17) - (f 4 26)).toInt < (c0_partSpread_v f).toInt then (1 : Int32) else (0 : Int32)) else (0 : Int32)) = (0 : Int32) := by simp only [if_neg h1]
      rw [e0] at hJ
      exact hJ
  refine hj190 ?_
  show fl_Tq _ 131 105 [some (.inr (.inr (.inl (0, 0)))), some (.inl (x_warnings_a18 f ((f 1 5).toInt.toNat))), some (.inl (f 4 26)), some (.inl (Int32.ofNat ((f 1 5).toInt.toNat)))] [.inl (if 0 < (f 1 5).toInt then (if ((f 4 17) - (f 4 26)).toInt < (c0_partSpread_v f).toInt then (1 : Int32) else (0 : Int32)) else (0 : Int32))] (f, l) _
  refine fl_Tq.stp (pc' := 106) (lv' := [some (.inr (.inr (.inl (0, 0)))), some (.inl (x_warnings_a18 f ((f 1 5).toInt.toNat))), some (.inl (f 4 26)), some (.inl (if 0 < (f 1 5).toInt then (if ((f 4 17) - (f 4 26)).toInt < (c0_partSpread_v f).toInt then (1 : Int32) else (0 : Int32)) else (0 : Int32)))]) (st' := []) (m' := (f, l)) rfl rfl (fl_bo rfl) rfl ?_
  refine fl_Tq.stp (pc' := 107) (lv' := [some (.inr (.inr (.inl (0, 0)))), some (.inl (x_warnings_a18 f ((f 1 5).toInt.toNat))), some (.inl (f 4 26)), some (.inl (if 0 < (f 1 5).toInt then (if ((f 4 17) - (f 4 26)).toInt < (c0_partSpread_v f).toInt then (1 : Int32) else (0 : Int32)) else (0 : Int32)))]) (st' := [.inl (if 0 < (f 1 5).toInt then (if ((f 4 17) - (f 4 26)).toInt < (c0_partSpread_v f).toInt then (1 : Int32) else (0 : Int32)) else (0 : Int32))]) (m' := (f, l)) rfl rfl (fl_bo rfl) rfl ?_
  have hj191 : fl_Tq (pw_P L xs) 131 119 [some (.inr (.inr (.inl (0, 0)))), some (.inl (x_warnings_a18 f ((f 1 5).toInt.toNat))), some (.inl (f 4 26)), some (.inl (if 0 < (f 1 5).toInt then (if ((f 4 17) - (f 4 26)).toInt < (c0_partSpread_v f).toInt then (1 : Int32) else (0 : Int32)) else (0 : Int32)))] [.inl (if (if 0 < (f 1 5).toInt then (if ((f 4 17) - (f 4 26)).toInt < (c0_partSpread_v f).toInt then (1 : Int32) else (0 : Int32)) else (0 : Int32)).toInt = 0 then x_warnings_a18 f ((f 1 5).toInt.toNat) else (x_warnings_a18 f ((f 1 5).toInt.toNat)) ||| (128 : Int32))] (f, l) Q → fl_Tq (pw_P L xs) 131 107 [some (.inr (.inr (.inl (0, 0)))), some (.inl (x_warnings_a18 f ((f 1 5).toInt.toNat))), some (.inl (f 4 26)), some (.inl (if 0 < (f 1 5).toInt then (if ((f 4 17) - (f 4 26)).toInt < (c0_partSpread_v f).toInt then (1 : Int32) else (0 : Int32)) else (0 : Int32)))] [.inl (if 0 < (f 1 5).toInt then (if ((f 4 17) - (f 4 26)).toInt < (c0_partSpread_v f).toInt then (1 : Int32) else (0 : Int32)) else (0 : Int32))] (f, l) Q := by
    intro hJ
    by_cases h3 : (if 0 < (f 1 5).toInt then (if ((f 4 17) - (f 4 26)).toInt < (c0_partSpread_v f).toInt then (1 : Int32) else (0 : Int32)) else (0 : Int32)).toInt = 0
    · refine fl_Tq.zt rfl (fl_bo rfl) (c1_eq_t h3) rfl ?_
      refine fl_Tq.stp (pc' := 119) (lv' := [some (.inr (.inr (.inl (0, 0)))), some (.inl (x_warnings_a18 f ((f 1 5).toInt.toNat))), some (.inl (f 4 26)), some (.inl (if 0 < (f 1 5).toInt then (if ((f 4 17) - (f 4 26)).toInt < (c0_partSpread_v f).toInt then (1 : Int32) else (0 : Int32)) else (0 : Int32)))]) (st' := [.inl (x_warnings_a18 f ((f 1 5).toInt.toNat))]) (m' := (f, l)) rfl rfl (fl_bo rfl) rfl ?_
      have e0 : (if (if 0 < (f 1 5).toInt then (if ((f 4 17) - (f 4 26)).toInt < (c0_partSpread_v f).toInt then (1 : Int32) else (0 : Int32)) else (0 : Int32)).toInt = 0 then x_warnings_a18 f ((f 1 5).toInt.toNat) else (x_warnings_a18 f ((f 1 5).toInt.toNat)) ||| (128 : Int32)) = x_warnings_a18 f ((f 1 5).toInt.toNat) := by simp only [if_pos h3]
      rw [e0] at hJ
      exact hJ
    · refine fl_Tq.zf rfl (fl_bo rfl) (c1_eq_f h3) rfl ?_
      refine fl_Tq.stp (pc' := 111) (lv' := [some (.inr (.inr (.inl (0, 0)))), some (.inl (x_warnings_a18 f ((f 1 5).toInt.toNat))), some (.inl (f 4 26)), some (.inl (if 0 < (f 1 5).toInt then (if ((f 4 17) - (f 4 26)).toInt < (c0_partSpread_v f).toInt then (1 : Int32) else (0 : Int32)) else (0 : Int32)))]) (st' := [.inl (x_warnings_a18 f ((f 1 5).toInt.toNat))]) (m' := (f, l)) rfl rfl (fl_bo rfl) rfl ?_
      refine fl_Tq.cS (c := (128 : Int32)) rfl (by decide +kernel) (fl_bo rfl) ?_
      refine fl_Tq.stp (pc' := 115) (lv' := [some (.inr (.inr (.inl (0, 0)))), some (.inl (x_warnings_a18 f ((f 1 5).toInt.toNat))), some (.inl (f 4 26)), some (.inl (if 0 < (f 1 5).toInt then (if ((f 4 17) - (f 4 26)).toInt < (c0_partSpread_v f).toInt then (1 : Int32) else (0 : Int32)) else (0 : Int32)))]) (st' := [.inl ((x_warnings_a18 f ((f 1 5).toInt.toNat)) ||| (128 : Int32))]) (m' := (f, l)) rfl rfl (fl_bo rfl) rfl ?_
      refine fl_Tq.stp (pc' := 119) (lv' := [some (.inr (.inr (.inl (0, 0)))), some (.inl (x_warnings_a18 f ((f 1 5).toInt.toNat))), some (.inl (f 4 26)), some (.inl (if 0 < (f 1 5).toInt then (if ((f 4 17) - (f 4 26)).toInt < (c0_partSpread_v f).toInt then (1 : Int32) else (0 : Int32)) else (0 : Int32)))]) (st' := [.inl ((x_warnings_a18 f ((f 1 5).toInt.toNat)) ||| (128 : Int32))]) (m' := (f, l)) rfl rfl (fl_bo rfl) rfl ?_
      have e0 : (if (if 0 < (f 1 5).toInt then (if ((f 4 17) - (f 4 26)).toInt < (c0_partSpread_v f).toInt then (1 : Int32) else (0 : Int32)) else (0 : Int32)).toInt = 0 then x_warnings_a18 f ((f 1 5).toInt.toNat) else (x_warnings_a18 f ((f 1 5).toInt.toNat)) ||| (128 : Int32)) = (x_warnings_a18 f ((f 1 5).toInt.toNat)) ||| (128 : Int32) := by simp only [if_neg h3]
      rw [e0] at hJ
      exact hJ
  refine hj191 ?_
  show fl_Tq _ 131 119 [some (.inr (.inr (.inl (0, 0)))), some (.inl (x_warnings_a18 f ((f 1 5).toInt.toNat))), some (.inl (f 4 26)), some (.inl (if 0 < (f 1 5).toInt then (if ((f 4 17) - (f 4 26)).toInt < (c0_partSpread_v f).toInt then (1 : Int32) else (0 : Int32)) else (0 : Int32)))] [.inl (if (if 0 < (f 1 5).toInt then (if ((f 4 17) - (f 4 26)).toInt < (c0_partSpread_v f).toInt then (1 : Int32) else (0 : Int32)) else (0 : Int32)).toInt = 0 then x_warnings_a18 f ((f 1 5).toInt.toNat) else (x_warnings_a18 f ((f 1 5).toInt.toNat)) ||| (128 : Int32))] (f, l) _
  exact fl_Tq.ret rfl rfl rfl k
noncomputable def y_warnings_a11 (f : t2_F) : Nat → Int32
  | 0 => (0 : Int32)
  | k11 + 1 => (((((y_warnings_a11 f k11) ||| (if ((f 280 34) - (f 280 60)).toInt < (r_voltsOf_v f (Int32.ofNat k11) k11).toInt then (1 : Int32) else (0 : Int32))) ||| (if (r_voltsOf_v f (Int32.ofNat k11) k11).toInt < ((f 280 35) + (f 280 60)).toInt then (2 : Int32) else (0 : Int32))) ||| (if ((f 280 36) - (f 280 60)).toInt < (f 280 (444 + 61 * k11 + 3)).toInt then (4 : Int32) else (0 : Int32))) ||| (if (f 280 (444 + 61 * k11 + 3)).toInt < ((f 280 37) + (f 280 60)).toInt then (8 : Int32) else (0 : Int32))) ||| (if ((f 280 51) - (f 280 60)).toInt < (r_spreadOf_v f).toInt then (128 : Int32) else (0 : Int32))
noncomputable def y_warnings_v (f : t2_F) : Int32 := y_warnings_a11 f ((f 280 2).toInt.toNat)
theorem y_warnings_q {L : Nat} {xs : Nat → Int32} {f : t2_F} {l : t2_L} {Q : Option fl_V → fl_M → Prop}  (hn : 0 ≤ (f 280 2).toInt ∧ (f 280 2).toInt ≤ 16) (hr : t2_RS f) (hk : ∀ C : Nat, (C : Int) < (f 280 2).toInt → t2_ck f C) (k : Q (some (.inl (y_warnings_v f))) (f, l)) : fl_Tq (pw_P L xs) 278 0 (fl_args (am_mxl (pw_P L xs) 278) [.inr (.inr (.inl (76, 277)))]) [] (f, l) Q := by
  refine fl_Tq.cI (c := (0 : Int32)) rfl (by decide +kernel) (fl_bo rfl) ?_
  refine fl_Tq.stp (pc' := 2) (lv' := [some (.inr (.inr (.inl (76, 277)))), some (.inl (0 : Int32)), none, none]) (st' := []) (m' := (f, l)) rfl rfl (fl_bo rfl) rfl ?_
  refine fl_Tq.stp (pc' := 3) (lv' := [some (.inr (.inr (.inl (76, 277)))), some (.inl (0 : Int32)), none, none]) (st' := [.inr (.inr (.inl (76, 277)))]) (m' := (f, l)) rfl rfl (fl_bo rfl) rfl ?_
  refine fl_Tq.cB (c := (26 : Int32)) rfl (by decide +kernel) (fl_bo rfl) ?_
  refine fl_Tq.cal rfl rfl (fl_bo rfl) rfl ?_
  refine t2_its (W := 26) (v := f 280 60) (by decide +kernel) (by decide) rfl ?_
  show fl_Tq _ 278 8 [some (.inr (.inr (.inl (76, 277)))), some (.inl (0 : Int32)), none, none] [.inl (f 280 60)] (f, l) _
  refine fl_Tq.stp (pc' := 9) (lv' := [some (.inr (.inr (.inl (76, 277)))), some (.inl (0 : Int32)), some (.inl (f 280 60)), none]) (st' := []) (m' := (f, l)) rfl rfl (fl_bo rfl) rfl ?_
  refine fl_Tq.cI (c := (0 : Int32)) rfl (by decide +kernel) (fl_bo rfl) ?_
  refine fl_Tq.stp (pc' := 11) (lv' := [some (.inr (.inr (.inl (76, 277)))), some (.inl (0 : Int32)), some (.inl (f 280 60)), some (.inl (0 : Int32))]) (st' := []) (m' := (f, l)) rfl rfl (fl_bo rfl) rfl ?_
  have hs11 : ∀ k11 : Nat, k11 < (f 280 2).toInt.toNat → fl_Tq (pw_P L xs) 278 11 [some (.inr (.inr (.inl (76, 277)))), some (.inl (y_warnings_a11 f (k11 + 1))), some (.inl (f 280 60)), some (.inl (Int32.ofNat (k11 + 1)))] [] (f, l) Q → fl_Tq (pw_P L xs) 278 11 [some (.inr (.inr (.inl (76, 277)))), some (.inl (y_warnings_a11 f k11)), some (.inl (f 280 60)), some (.inl (Int32.ofNat k11))] [] (f, l) Q := by
    intro k11 hk11 hS
    refine fl_Tq.stp (pc' := 12) (lv' := [some (.inr (.inr (.inl (76, 277)))), some (.inl (y_warnings_a11 f k11)), some (.inl (f 280 60)), some (.inl (Int32.ofNat k11))]) (st' := [.inl (Int32.ofNat k11)]) (m' := (f, l)) rfl rfl (fl_bo rfl) rfl ?_
    refine fl_Tq.stp (pc' := 13) (lv' := [some (.inr (.inr (.inl (76, 277)))), some (.inl (y_warnings_a11 f k11)), some (.inl (f 280 60)), some (.inl (Int32.ofNat k11))]) (st' := [.inr (.inr (.inl (76, 277))), .inl (Int32.ofNat k11)]) (m' := (f, l)) rfl rfl (fl_bo rfl) rfl ?_
    refine fl_Tq.stp (pc' := 16) (lv' := [some (.inr (.inr (.inl (76, 277)))), some (.inl (y_warnings_a11 f k11)), some (.inl (f 280 60)), some (.inl (Int32.ofNat k11))]) (st' := [.inr (.inr (.inl (79, 280))), .inl (Int32.ofNat k11)]) (m' := (f, l)) rfl rfl (fl_bo rfl) rfl ?_
    refine fl_Tq.cI (c := (2 : Int32)) rfl (by decide +kernel) (fl_bo rfl) ?_
    refine fl_Tq.ldV (p := 280) (τ := 79) (n := 29780) (z := (0, 0, 0)) (k := 2) (v := f 280 2) rfl (fl_bo rfl) rfl (by decide +kernel) (by decide) rfl ?_
    refine fl_Tq.jf rfl (fl_bo rfl) (c2_ge_f (t2_lk hk11 (t2_nn hn.1))) rfl ?_
    refine fl_Tq.stp (pc' := 22) (lv' := [some (.inr (.inr (.inl (76, 277)))), some (.inl (y_warnings_a11 f k11)), some (.inl (f 280 60)), some (.inl (Int32.ofNat k11))]) (st' := [.inl (y_warnings_a11 f k11)]) (m' := (f, l)) rfl rfl (fl_bo rfl) rfl ?_
    refine fl_Tq.stp (pc' := 23) (lv' := [some (.inr (.inr (.inl (76, 277)))), some (.inl (y_warnings_a11 f k11)), some (.inl (f 280 60)), some (.inl (Int32.ofNat k11))]) (st' := [.inr (.inr (.inl (76, 277))), .inl (y_warnings_a11 f k11)]) (m' := (f, l)) rfl rfl (fl_bo rfl) rfl ?_
    refine fl_Tq.stp (pc' := 24) (lv' := [some (.inr (.inr (.inl (76, 277)))), some (.inl (y_warnings_a11 f k11)), some (.inl (f 280 60)), some (.inl (Int32.ofNat k11))]) (st' := [.inl (Int32.ofNat k11), .inr (.inr (.inl (76, 277))), .inl (y_warnings_a11 f k11)]) (m' := (f, l)) rfl rfl (fl_bo rfl) rfl ?_
    refine fl_Tq.cal rfl rfl (fl_bo rfl) rfl ?_
    refine r_voltsOf_q (at_ofN (by omega)) (by omega) hr (hk k11 (by omega)) ?_
    show fl_Tq _ 278 27 [some (.inr (.inr (.inl (76, 277)))), some (.inl (y_warnings_a11 f k11)), some (.inl (f 280 60)), some (.inl (Int32.ofNat k11))] [.inl (r_voltsOf_v f (Int32.ofNat k11) k11), .inl (y_warnings_a11 f k11)] (f, l) _
    refine fl_Tq.stp (pc' := 28) (lv' := [some (.inr (.inr (.inl (76, 277)))), some (.inl (y_warnings_a11 f k11)), some (.inl (f 280 60)), some (.inl (Int32.ofNat k11))]) (st' := [.inr (.inr (.inl (76, 277))), .inl (r_voltsOf_v f (Int32.ofNat k11) k11), .inl (y_warnings_a11 f k11)]) (m' := (f, l)) rfl rfl (fl_bo rfl) rfl ?_
    refine fl_Tq.cI (c := (0 : Int32)) rfl (by decide +kernel) (fl_bo rfl) ?_
    refine fl_Tq.cal rfl rfl (fl_bo rfl) rfl ?_
    refine t2_its (W := 0) (v := f 280 34) (by decide +kernel) (by decide) rfl ?_
    show fl_Tq _ 278 32 [some (.inr (.inr (.inl (76, 277)))), some (.inl (y_warnings_a11 f k11)), some (.inl (f 280 60)), some (.inl (Int32.ofNat k11))] [.inl (f 280 34), .inl (r_voltsOf_v f (Int32.ofNat k11) k11), .inl (y_warnings_a11 f k11)] (f, l) _
    refine fl_Tq.stp (pc' := 33) (lv' := [some (.inr (.inr (.inl (76, 277)))), some (.inl (y_warnings_a11 f k11)), some (.inl (f 280 60)), some (.inl (Int32.ofNat k11))]) (st' := [.inl (f 280 60), .inl (f 280 34), .inl (r_voltsOf_v f (Int32.ofNat k11) k11), .inl (y_warnings_a11 f k11)]) (m' := (f, l)) rfl rfl (fl_bo rfl) rfl ?_
    refine fl_Tq.stp (pc' := 34) (lv' := [some (.inr (.inr (.inl (76, 277)))), some (.inl (y_warnings_a11 f k11)), some (.inl (f 280 60)), some (.inl (Int32.ofNat k11))]) (st' := [.inl ((f 280 34) - (f 280 60)), .inl (r_voltsOf_v f (Int32.ofNat k11) k11), .inl (y_warnings_a11 f k11)]) (m' := (f, l)) rfl rfl (fl_bo rfl) rfl ?_
    have hj192 : fl_Tq (pw_P L xs) 278 42 [some (.inr (.inr (.inl (76, 277)))), some (.inl (y_warnings_a11 f k11)), some (.inl (f 280 60)), some (.inl (Int32.ofNat k11))] [.inl (if ((f 280 34) - (f 280 60)).toInt < (r_voltsOf_v f (Int32.ofNat k11) k11).toInt then (1 : Int32) else (0 : Int32)), .inl (y_warnings_a11 f k11)] (f, l) Q → fl_Tq (pw_P L xs) 278 34 [some (.inr (.inr (.inl (76, 277)))), some (.inl (y_warnings_a11 f k11)), some (.inl (f 280 60)), some (.inl (Int32.ofNat k11))] [.inl ((f 280 34) - (f 280 60)), .inl (r_voltsOf_v f (Int32.ofNat k11) k11), .inl (y_warnings_a11 f k11)] (f, l) Q := by
      intro hJ
      by_cases h1 : ((f 280 34) - (f 280 60)).toInt < (r_voltsOf_v f (Int32.ofNat k11) k11).toInt
      · refine fl_Tq.jf rfl (fl_bo rfl) (c2_le_f h1) rfl ?_
        refine fl_Tq.cI (c := (1 : Int32)) rfl (by decide +kernel) (fl_bo rfl) ?_
        refine fl_Tq.stp (pc' := 42) (lv' := [some (.inr (.inr (.inl (76, 277)))), some (.inl (y_warnings_a11 f k11)), some (.inl (f 280 60)), some (.inl (Int32.ofNat k11))]) (st' := [.inl (1 : Int32), .inl (y_warnings_a11 f k11)]) (m' := (f, l)) rfl rfl (fl_bo rfl) rfl ?_
        have e0 : (if ((f 280 34) - (f 280 60)).toInt < (r_voltsOf_v f (Int32.ofNat k11) k11).toInt then (1 : Int32) else (0 : Int32)) = (1 : Int32) := by simp only [if_pos h1]
        rw [e0] at hJ
        exact hJ
      · refine fl_Tq.jt rfl (fl_bo rfl) (c2_le_t h1) rfl ?_
        refine fl_Tq.cI (c := (0 : Int32)) rfl (by decide +kernel) (fl_bo rfl) ?_
        have e0 : (if ((f 280 34) - (f 280 60)).toInt < (r_voltsOf_v f (Int32.ofNat k11) k11).toInt then (1 : Int32) else (0 : Int32)) = (0 : Int32) := by simp only [if_neg h1]
        rw [e0] at hJ
        exact hJ
    refine hj192 ?_
    show fl_Tq _ 278 42 [some (.inr (.inr (.inl (76, 277)))), some (.inl (y_warnings_a11 f k11)), some (.inl (f 280 60)), some (.inl (Int32.ofNat k11))] [.inl (if ((f 280 34) - (f 280 60)).toInt < (r_voltsOf_v f (Int32.ofNat k11) k11).toInt then (1 : Int32) else (0 : Int32)), .inl (y_warnings_a11 f k11)] (f, l) _
    refine fl_Tq.stp (pc' := 43) (lv' := [some (.inr (.inr (.inl (76, 277)))), some (.inl (y_warnings_a11 f k11)), some (.inl (f 280 60)), some (.inl (Int32.ofNat k11))]) (st' := [.inl ((y_warnings_a11 f k11) ||| (if ((f 280 34) - (f 280 60)).toInt < (r_voltsOf_v f (Int32.ofNat k11) k11).toInt then (1 : Int32) else (0 : Int32)))]) (m' := (f, l)) rfl rfl (fl_bo rfl) rfl ?_
    refine fl_Tq.stp (pc' := 44) (lv' := [some (.inr (.inr (.inl (76, 277)))), some (.inl ((y_warnings_a11 f k11) ||| (if ((f 280 34) - (f 280 60)).toInt < (r_voltsOf_v f (Int32.ofNat k11) k11).toInt then (1 : Int32) else (0 : Int32)))), some (.inl (f 280 60)), some (.inl (Int32.ofNat k11))]) (st' := []) (m' := (f, l)) rfl rfl (fl_bo rfl) rfl ?_
    refine fl_Tq.stp (pc' := 45) (lv' := [some (.inr (.inr (.inl (76, 277)))), some (.inl ((y_warnings_a11 f k11) ||| (if ((f 280 34) - (f 280 60)).toInt < (r_voltsOf_v f (Int32.ofNat k11) k11).toInt then (1 : Int32) else (0 : Int32)))), some (.inl (f 280 60)), some (.inl (Int32.ofNat k11))]) (st' := [.inl ((y_warnings_a11 f k11) ||| (if ((f 280 34) - (f 280 60)).toInt < (r_voltsOf_v f (Int32.ofNat k11) k11).toInt then (1 : Int32) else (0 : Int32)))]) (m' := (f, l)) rfl rfl (fl_bo rfl) rfl ?_
    refine fl_Tq.stp (pc' := 46) (lv' := [some (.inr (.inr (.inl (76, 277)))), some (.inl ((y_warnings_a11 f k11) ||| (if ((f 280 34) - (f 280 60)).toInt < (r_voltsOf_v f (Int32.ofNat k11) k11).toInt then (1 : Int32) else (0 : Int32)))), some (.inl (f 280 60)), some (.inl (Int32.ofNat k11))]) (st' := [.inr (.inr (.inl (76, 277))), .inl ((y_warnings_a11 f k11) ||| (if ((f 280 34) - (f 280 60)).toInt < (r_voltsOf_v f (Int32.ofNat k11) k11).toInt then (1 : Int32) else (0 : Int32)))]) (m' := (f, l)) rfl rfl (fl_bo rfl) rfl ?_
    refine fl_Tq.stp (pc' := 47) (lv' := [some (.inr (.inr (.inl (76, 277)))), some (.inl ((y_warnings_a11 f k11) ||| (if ((f 280 34) - (f 280 60)).toInt < (r_voltsOf_v f (Int32.ofNat k11) k11).toInt then (1 : Int32) else (0 : Int32)))), some (.inl (f 280 60)), some (.inl (Int32.ofNat k11))]) (st' := [.inl (Int32.ofNat k11), .inr (.inr (.inl (76, 277))), .inl ((y_warnings_a11 f k11) ||| (if ((f 280 34) - (f 280 60)).toInt < (r_voltsOf_v f (Int32.ofNat k11) k11).toInt then (1 : Int32) else (0 : Int32)))]) (m' := (f, l)) rfl rfl (fl_bo rfl) rfl ?_
    refine fl_Tq.cal rfl rfl (fl_bo rfl) rfl ?_
    refine r_voltsOf_q (at_ofN (by omega)) (by omega) hr (hk k11 (by omega)) ?_
    show fl_Tq _ 278 50 [some (.inr (.inr (.inl (76, 277)))), some (.inl ((y_warnings_a11 f k11) ||| (if ((f 280 34) - (f 280 60)).toInt < (r_voltsOf_v f (Int32.ofNat k11) k11).toInt then (1 : Int32) else (0 : Int32)))), some (.inl (f 280 60)), some (.inl (Int32.ofNat k11))] [.inl (r_voltsOf_v f (Int32.ofNat k11) k11), .inl ((y_warnings_a11 f k11) ||| (if ((f 280 34) - (f 280 60)).toInt < (r_voltsOf_v f (Int32.ofNat k11) k11).toInt then (1 : Int32) else (0 : Int32)))] (f, l) _
    refine fl_Tq.stp (pc' := 51) (lv' := [some (.inr (.inr (.inl (76, 277)))), some (.inl ((y_warnings_a11 f k11) ||| (if ((f 280 34) - (f 280 60)).toInt < (r_voltsOf_v f (Int32.ofNat k11) k11).toInt then (1 : Int32) else (0 : Int32)))), some (.inl (f 280 60)), some (.inl (Int32.ofNat k11))]) (st' := [.inr (.inr (.inl (76, 277))), .inl (r_voltsOf_v f (Int32.ofNat k11) k11), .inl ((y_warnings_a11 f k11) ||| (if ((f 280 34) - (f 280 60)).toInt < (r_voltsOf_v f (Int32.ofNat k11) k11).toInt then (1 : Int32) else (0 : Int32)))]) (m' := (f, l)) rfl rfl (fl_bo rfl) rfl ?_
    refine fl_Tq.cI (c := (1 : Int32)) rfl (by decide +kernel) (fl_bo rfl) ?_
    refine fl_Tq.cal rfl rfl (fl_bo rfl) rfl ?_
    refine t2_its (W := 1) (v := f 280 35) (by decide +kernel) (by decide) rfl ?_
    show fl_Tq _ 278 55 [some (.inr (.inr (.inl (76, 277)))), some (.inl ((y_warnings_a11 f k11) ||| (if ((f 280 34) - (f 280 60)).toInt < (r_voltsOf_v f (Int32.ofNat k11) k11).toInt then (1 : Int32) else (0 : Int32)))), some (.inl (f 280 60)), some (.inl (Int32.ofNat k11))] [.inl (f 280 35), .inl (r_voltsOf_v f (Int32.ofNat k11) k11), .inl ((y_warnings_a11 f k11) ||| (if ((f 280 34) - (f 280 60)).toInt < (r_voltsOf_v f (Int32.ofNat k11) k11).toInt then (1 : Int32) else (0 : Int32)))] (f, l) _
    refine fl_Tq.stp (pc' := 56) (lv' := [some (.inr (.inr (.inl (76, 277)))), some (.inl ((y_warnings_a11 f k11) ||| (if ((f 280 34) - (f 280 60)).toInt < (r_voltsOf_v f (Int32.ofNat k11) k11).toInt then (1 : Int32) else (0 : Int32)))), some (.inl (f 280 60)), some (.inl (Int32.ofNat k11))]) (st' := [.inl (f 280 60), .inl (f 280 35), .inl (r_voltsOf_v f (Int32.ofNat k11) k11), .inl ((y_warnings_a11 f k11) ||| (if ((f 280 34) - (f 280 60)).toInt < (r_voltsOf_v f (Int32.ofNat k11) k11).toInt then (1 : Int32) else (0 : Int32)))]) (m' := (f, l)) rfl rfl (fl_bo rfl) rfl ?_
    refine fl_Tq.stp (pc' := 57) (lv' := [some (.inr (.inr (.inl (76, 277)))), some (.inl ((y_warnings_a11 f k11) ||| (if ((f 280 34) - (f 280 60)).toInt < (r_voltsOf_v f (Int32.ofNat k11) k11).toInt then (1 : Int32) else (0 : Int32)))), some (.inl (f 280 60)), some (.inl (Int32.ofNat k11))]) (st' := [.inl ((f 280 35) + (f 280 60)), .inl (r_voltsOf_v f (Int32.ofNat k11) k11), .inl ((y_warnings_a11 f k11) ||| (if ((f 280 34) - (f 280 60)).toInt < (r_voltsOf_v f (Int32.ofNat k11) k11).toInt then (1 : Int32) else (0 : Int32)))]) (m' := (f, l)) rfl rfl (fl_bo rfl) rfl ?_
    have hj193 : fl_Tq (pw_P L xs) 278 65 [some (.inr (.inr (.inl (76, 277)))), some (.inl ((y_warnings_a11 f k11) ||| (if ((f 280 34) - (f 280 60)).toInt < (r_voltsOf_v f (Int32.ofNat k11) k11).toInt then (1 : Int32) else (0 : Int32)))), some (.inl (f 280 60)), some (.inl (Int32.ofNat k11))] [.inl (if (r_voltsOf_v f (Int32.ofNat k11) k11).toInt < ((f 280 35) + (f 280 60)).toInt then (2 : Int32) else (0 : Int32)), .inl ((y_warnings_a11 f k11) ||| (if ((f 280 34) - (f 280 60)).toInt < (r_voltsOf_v f (Int32.ofNat k11) k11).toInt then (1 : Int32) else (0 : Int32)))] (f, l) Q → fl_Tq (pw_P L xs) 278 57 [some (.inr (.inr (.inl (76, 277)))), some (.inl ((y_warnings_a11 f k11) ||| (if ((f 280 34) - (f 280 60)).toInt < (r_voltsOf_v f (Int32.ofNat k11) k11).toInt then (1 : Int32) else (0 : Int32)))), some (.inl (f 280 60)), some (.inl (Int32.ofNat k11))] [.inl ((f 280 35) + (f 280 60)), .inl (r_voltsOf_v f (Int32.ofNat k11) k11), .inl ((y_warnings_a11 f k11) ||| (if ((f 280 34) - (f 280 60)).toInt < (r_voltsOf_v f (Int32.ofNat k11) k11).toInt then (1 : Int32) else (0 : Int32)))] (f, l) Q := by
      intro hJ
      by_cases h2 : (r_voltsOf_v f (Int32.ofNat k11) k11).toInt < ((f 280 35) + (f 280 60)).toInt
      · refine fl_Tq.jf rfl (fl_bo rfl) (c2_ge_f h2) rfl ?_
        refine fl_Tq.cI (c := (2 : Int32)) rfl (by decide +kernel) (fl_bo rfl) ?_
        refine fl_Tq.stp (pc' := 65) (lv' := [some (.inr (.inr (.inl (76, 277)))), some (.inl ((y_warnings_a11 f k11) ||| (if ((f 280 34) - (f 280 60)).toInt < (r_voltsOf_v f (Int32.ofNat k11) k11).toInt then (1 : Int32) else (0 : Int32)))), some (.inl (f 280 60)), some (.inl (Int32.ofNat k11))]) (st' := [.inl (2 : Int32), .inl ((y_warnings_a11 f k11) ||| (if ((f 280 34) - (f 280 60)).toInt < (r_voltsOf_v f (Int32.ofNat k11) k11).toInt then (1 : Int32) else (0 : Int32)))]) (m' := (f, l)) rfl rfl (fl_bo rfl) rfl ?_
        have e0 : (if (r_voltsOf_v f (Int32.ofNat k11) k11).toInt < ((f 280 35) + (f 280 60)).toInt then (2 : Int32) else (0 : Int32)) = (2 : Int32) := by simp only [if_pos h2]
        rw [e0] at hJ
        exact hJ
      · refine fl_Tq.jt rfl (fl_bo rfl) (c2_ge_t h2) rfl ?_
        refine fl_Tq.cI (c := (0 : Int32)) rfl (by decide +kernel) (fl_bo rfl) ?_
        have e0 : (if (r_voltsOf_v f (Int32.ofNat k11) k11).toInt < ((f 280 35) + (f 280 60)).toInt then (2 : Int32) else (0 : Int32)) = (0 : Int32) := by simp only [if_neg h2]
        rw [e0] at hJ
        exact hJ
    refine hj193 ?_
    show fl_Tq _ 278 65 [some (.inr (.inr (.inl (76, 277)))), some (.inl ((y_warnings_a11 f k11) ||| (if ((f 280 34) - (f 280 60)).toInt < (r_voltsOf_v f (Int32.ofNat k11) k11).toInt then (1 : Int32) else (0 : Int32)))), some (.inl (f 280 60)), some (.inl (Int32.ofNat k11))] [.inl (if (r_voltsOf_v f (Int32.ofNat k11) k11).toInt < ((f 280 35) + (f 280 60)).toInt then (2 : Int32) else (0 : Int32)), .inl ((y_warnings_a11 f k11) ||| (if ((f 280 34) - (f 280 60)).toInt < (r_voltsOf_v f (Int32.ofNat k11) k11).toInt then (1 : Int32) else (0 : Int32)))] (f, l) _
    refine fl_Tq.stp (pc' := 66) (lv' := [some (.inr (.inr (.inl (76, 277)))), some (.inl ((y_warnings_a11 f k11) ||| (if ((f 280 34) - (f 280 60)).toInt < (r_voltsOf_v f (Int32.ofNat k11) k11).toInt then (1 : Int32) else (0 : Int32)))), some (.inl (f 280 60)), some (.inl (Int32.ofNat k11))]) (st' := [.inl (((y_warnings_a11 f k11) ||| (if ((f 280 34) - (f 280 60)).toInt < (r_voltsOf_v f (Int32.ofNat k11) k11).toInt then (1 : Int32) else (0 : Int32))) ||| (if (r_voltsOf_v f (Int32.ofNat k11) k11).toInt < ((f 280 35) + (f 280 60)).toInt then (2 : Int32) else (0 : Int32)))]) (m' := (f, l)) rfl rfl (fl_bo rfl) rfl ?_
    refine fl_Tq.stp (pc' := 67) (lv' := [some (.inr (.inr (.inl (76, 277)))), some (.inl (((y_warnings_a11 f k11) ||| (if ((f 280 34) - (f 280 60)).toInt < (r_voltsOf_v f (Int32.ofNat k11) k11).toInt then (1 : Int32) else (0 : Int32))) ||| (if (r_voltsOf_v f (Int32.ofNat k11) k11).toInt < ((f 280 35) + (f 280 60)).toInt then (2 : Int32) else (0 : Int32)))), some (.inl (f 280 60)), some (.inl (Int32.ofNat k11))]) (st' := []) (m' := (f, l)) rfl rfl (fl_bo rfl) rfl ?_
    refine fl_Tq.stp (pc' := 68) (lv' := [some (.inr (.inr (.inl (76, 277)))), some (.inl (((y_warnings_a11 f k11) ||| (if ((f 280 34) - (f 280 60)).toInt < (r_voltsOf_v f (Int32.ofNat k11) k11).toInt then (1 : Int32) else (0 : Int32))) ||| (if (r_voltsOf_v f (Int32.ofNat k11) k11).toInt < ((f 280 35) + (f 280 60)).toInt then (2 : Int32) else (0 : Int32)))), some (.inl (f 280 60)), some (.inl (Int32.ofNat k11))]) (st' := [.inl (((y_warnings_a11 f k11) ||| (if ((f 280 34) - (f 280 60)).toInt < (r_voltsOf_v f (Int32.ofNat k11) k11).toInt then (1 : Int32) else (0 : Int32))) ||| (if (r_voltsOf_v f (Int32.ofNat k11) k11).toInt < ((f 280 35) + (f 280 60)).toInt then (2 : Int32) else (0 : Int32)))]) (m' := (f, l)) rfl rfl (fl_bo rfl) rfl ?_
    refine fl_Tq.stp (pc' := 69) (lv' := [some (.inr (.inr (.inl (76, 277)))), some (.inl (((y_warnings_a11 f k11) ||| (if ((f 280 34) - (f 280 60)).toInt < (r_voltsOf_v f (Int32.ofNat k11) k11).toInt then (1 : Int32) else (0 : Int32))) ||| (if (r_voltsOf_v f (Int32.ofNat k11) k11).toInt < ((f 280 35) + (f 280 60)).toInt then (2 : Int32) else (0 : Int32)))), some (.inl (f 280 60)), some (.inl (Int32.ofNat k11))]) (st' := [.inr (.inr (.inl (76, 277))), .inl (((y_warnings_a11 f k11) ||| (if ((f 280 34) - (f 280 60)).toInt < (r_voltsOf_v f (Int32.ofNat k11) k11).toInt then (1 : Int32) else (0 : Int32))) ||| (if (r_voltsOf_v f (Int32.ofNat k11) k11).toInt < ((f 280 35) + (f 280 60)).toInt then (2 : Int32) else (0 : Int32)))]) (m' := (f, l)) rfl rfl (fl_bo rfl) rfl ?_
    refine fl_Tq.stp (pc' := 70) (lv' := [some (.inr (.inr (.inl (76, 277)))), some (.inl (((y_warnings_a11 f k11) ||| (if ((f 280 34) - (f 280 60)).toInt < (r_voltsOf_v f (Int32.ofNat k11) k11).toInt then (1 : Int32) else (0 : Int32))) ||| (if (r_voltsOf_v f (Int32.ofNat k11) k11).toInt < ((f 280 35) + (f 280 60)).toInt then (2 : Int32) else (0 : Int32)))), some (.inl (f 280 60)), some (.inl (Int32.ofNat k11))]) (st' := [.inl (Int32.ofNat k11), .inr (.inr (.inl (76, 277))), .inl (((y_warnings_a11 f k11) ||| (if ((f 280 34) - (f 280 60)).toInt < (r_voltsOf_v f (Int32.ofNat k11) k11).toInt then (1 : Int32) else (0 : Int32))) ||| (if (r_voltsOf_v f (Int32.ofNat k11) k11).toInt < ((f 280 35) + (f 280 60)).toInt then (2 : Int32) else (0 : Int32)))]) (m' := (f, l)) rfl rfl (fl_bo rfl) rfl ?_
    refine fl_Tq.cI (c := (3 : Int32)) rfl (by decide +kernel) (fl_bo rfl) ?_
    refine fl_Tq.cal rfl rfl (fl_bo rfl) rfl ?_
    refine t2_get (C := k11) (W := 3) (v := f 280 (444 + 61 * k11 + 3)) (at_ofN (by omega)) (by decide +kernel) (by omega) (by decide) rfl ?_
    show fl_Tq _ 278 74 [some (.inr (.inr (.inl (76, 277)))), some (.inl (((y_warnings_a11 f k11) ||| (if ((f 280 34) - (f 280 60)).toInt < (r_voltsOf_v f (Int32.ofNat k11) k11).toInt then (1 : Int32) else (0 : Int32))) ||| (if (r_voltsOf_v f (Int32.ofNat k11) k11).toInt < ((f 280 35) + (f 280 60)).toInt then (2 : Int32) else (0 : Int32)))), some (.inl (f 280 60)), some (.inl (Int32.ofNat k11))] [.inl (f 280 (444 + 61 * k11 + 3)), .inl (((y_warnings_a11 f k11) ||| (if ((f 280 34) - (f 280 60)).toInt < (r_voltsOf_v f (Int32.ofNat k11) k11).toInt then (1 : Int32) else (0 : Int32))) ||| (if (r_voltsOf_v f (Int32.ofNat k11) k11).toInt < ((f 280 35) + (f 280 60)).toInt then (2 : Int32) else (0 : Int32)))] (f, l) _
    refine fl_Tq.stp (pc' := 75) (lv' := [some (.inr (.inr (.inl (76, 277)))), some (.inl (((y_warnings_a11 f k11) ||| (if ((f 280 34) - (f 280 60)).toInt < (r_voltsOf_v f (Int32.ofNat k11) k11).toInt then (1 : Int32) else (0 : Int32))) ||| (if (r_voltsOf_v f (Int32.ofNat k11) k11).toInt < ((f 280 35) + (f 280 60)).toInt then (2 : Int32) else (0 : Int32)))), some (.inl (f 280 60)), some (.inl (Int32.ofNat k11))]) (st' := [.inr (.inr (.inl (76, 277))), .inl (f 280 (444 + 61 * k11 + 3)), .inl (((y_warnings_a11 f k11) ||| (if ((f 280 34) - (f 280 60)).toInt < (r_voltsOf_v f (Int32.ofNat k11) k11).toInt then (1 : Int32) else (0 : Int32))) ||| (if (r_voltsOf_v f (Int32.ofNat k11) k11).toInt < ((f 280 35) + (f 280 60)).toInt then (2 : Int32) else (0 : Int32)))]) (m' := (f, l)) rfl rfl (fl_bo rfl) rfl ?_
    refine fl_Tq.cI (c := (2 : Int32)) rfl (by decide +kernel) (fl_bo rfl) ?_
    refine fl_Tq.cal rfl rfl (fl_bo rfl) rfl ?_
    refine t2_its (W := 2) (v := f 280 36) (by decide +kernel) (by decide) rfl ?_
    show fl_Tq _ 278 79 [some (.inr (.inr (.inl (76, 277)))), some (.inl (((y_warnings_a11 f k11) ||| (if ((f 280 34) - (f 280 60)).toInt < (r_voltsOf_v f (Int32.ofNat k11) k11).toInt then (1 : Int32) else (0 : Int32))) ||| (if (r_voltsOf_v f (Int32.ofNat k11) k11).toInt < ((f 280 35) + (f 280 60)).toInt then (2 : Int32) else (0 : Int32)))), some (.inl (f 280 60)), some (.inl (Int32.ofNat k11))] [.inl (f 280 36), .inl (f 280 (444 + 61 * k11 + 3)), .inl (((y_warnings_a11 f k11) ||| (if ((f 280 34) - (f 280 60)).toInt < (r_voltsOf_v f (Int32.ofNat k11) k11).toInt then (1 : Int32) else (0 : Int32))) ||| (if (r_voltsOf_v f (Int32.ofNat k11) k11).toInt < ((f 280 35) + (f 280 60)).toInt then (2 : Int32) else (0 : Int32)))] (f, l) _
    refine fl_Tq.stp (pc' := 80) (lv' := [some (.inr (.inr (.inl (76, 277)))), some (.inl (((y_warnings_a11 f k11) ||| (if ((f 280 34) - (f 280 60)).toInt < (r_voltsOf_v f (Int32.ofNat k11) k11).toInt then (1 : Int32) else (0 : Int32))) ||| (if (r_voltsOf_v f (Int32.ofNat k11) k11).toInt < ((f 280 35) + (f 280 60)).toInt then (2 : Int32) else (0 : Int32)))), some (.inl (f 280 60)), some (.inl (Int32.ofNat k11))]) (st' := [.inl (f 280 60), .inl (f 280 36), .inl (f 280 (444 + 61 * k11 + 3)), .inl (((y_warnings_a11 f k11) ||| (if ((f 280 34) - (f 280 60)).toInt < (r_voltsOf_v f (Int32.ofNat k11) k11).toInt then (1 : Int32) else (0 : Int32))) ||| (if (r_voltsOf_v f (Int32.ofNat k11) k11).toInt < ((f 280 35) + (f 280 60)).toInt then (2 : Int32) else (0 : Int32)))]) (m' := (f, l)) rfl rfl (fl_bo rfl) rfl ?_
    refine fl_Tq.stp (pc' := 81) (lv' := [some (.inr (.inr (.inl (76, 277)))), some (.inl (((y_warnings_a11 f k11) ||| (if ((f 280 34) - (f 280 60)).toInt < (r_voltsOf_v f (Int32.ofNat k11) k11).toInt then (1 : Int32) else (0 : Int32))) ||| (if (r_voltsOf_v f (Int32.ofNat k11) k11).toInt < ((f 280 35) + (f 280 60)).toInt then (2 : Int32) else (0 : Int32)))), some (.inl (f 280 60)), some (.inl (Int32.ofNat k11))]) (st' := [.inl ((f 280 36) - (f 280 60)), .inl (f 280 (444 + 61 * k11 + 3)), .inl (((y_warnings_a11 f k11) ||| (if ((f 280 34) - (f 280 60)).toInt < (r_voltsOf_v f (Int32.ofNat k11) k11).toInt then (1 : Int32) else (0 : Int32))) ||| (if (r_voltsOf_v f (Int32.ofNat k11) k11).toInt < ((f 280 35) + (f 280 60)).toInt then (2 : Int32) else (0 : Int32)))]) (m' := (f, l)) rfl rfl (fl_bo rfl) rfl ?_
    have hj194 : fl_Tq (pw_P L xs) 278 89 [some (.inr (.inr (.inl (76, 277)))), some (.inl (((y_warnings_a11 f k11) ||| (if ((f 280 34) - (f 280 60)).toInt < (r_voltsOf_v f (Int32.ofNat k11) k11).toInt then (1 : Int32) else (0 : Int32))) ||| (if (r_voltsOf_v f (Int32.ofNat k11) k11).toInt < ((f 280 35) + (f 280 60)).toInt then (2 : Int32) else (0 : Int32)))), some (.inl (f 280 60)), some (.inl (Int32.ofNat k11))] [.inl (if ((f 280 36) - (f 280 60)).toInt < (f 280 (444 + 61 * k11 + 3)).toInt then (4 : Int32) else (0 : Int32)), .inl (((y_warnings_a11 f k11) ||| (if ((f 280 34) - (f 280 60)).toInt < (r_voltsOf_v f (Int32.ofNat k11) k11).toInt then (1 : Int32) else (0 : Int32))) ||| (if (r_voltsOf_v f (Int32.ofNat k11) k11).toInt < ((f 280 35) + (f 280 60)).toInt then (2 : Int32) else (0 : Int32)))] (f, l) Q → fl_Tq (pw_P L xs) 278 81 [some (.inr (.inr (.inl (76, 277)))), some (.inl (((y_warnings_a11 f k11) ||| (if ((f 280 34) - (f 280 60)).toInt < (r_voltsOf_v f (Int32.ofNat k11) k11).toInt then (1 : Int32) else (0 : Int32))) ||| (if (r_voltsOf_v f (Int32.ofNat k11) k11).toInt < ((f 280 35) + (f 280 60)).toInt then (2 : Int32) else (0 : Int32)))), some (.inl (f 280 60)), some (.inl (Int32.ofNat k11))] [.inl ((f 280 36) - (f 280 60)), .inl (f 280 (444 + 61 * k11 + 3)), .inl (((y_warnings_a11 f k11) ||| (if ((f 280 34) - (f 280 60)).toInt < (r_voltsOf_v f (Int32.ofNat k11) k11).toInt then (1 : Int32) else (0 : Int32))) ||| (if (r_voltsOf_v f (Int32.ofNat k11) k11).toInt < ((f 280 35) + (f 280 60)).toInt then (2 : Int32) else (0 : Int32)))] (f, l) Q := by
      intro hJ
      by_cases h3 : ((f 280 36) - (f 280 60)).toInt < (f 280 (444 + 61 * k11 + 3)).toInt
      · refine fl_Tq.jf rfl (fl_bo rfl) (c2_le_f h3) rfl ?_
        refine fl_Tq.cI (c := (4 : Int32)) rfl (by decide +kernel) (fl_bo rfl) ?_
        refine fl_Tq.stp (pc' := 89) (lv' := [some (.inr (.inr (.inl (76, 277)))), some (.inl (((y_warnings_a11 f k11) ||| (if ((f 280 34) - (f 280 60)).toInt < (r_voltsOf_v f (Int32.ofNat k11) k11).toInt then (1 : Int32) else (0 : Int32))) ||| (if (r_voltsOf_v f (Int32.ofNat k11) k11).toInt < ((f 280 35) + (f 280 60)).toInt then (2 : Int32) else (0 : Int32)))), some (.inl (f 280 60)), some (.inl (Int32.ofNat k11))]) (st' := [.inl (4 : Int32), .inl (((y_warnings_a11 f k11) ||| (if ((f 280 34) - (f 280 60)).toInt < (r_voltsOf_v f (Int32.ofNat k11) k11).toInt then (1 : Int32) else (0 : Int32))) ||| (if (r_voltsOf_v f (Int32.ofNat k11) k11).toInt < ((f 280 35) + (f 280 60)).toInt then (2 : Int32) else (0 : Int32)))]) (m' := (f, l)) rfl rfl (fl_bo rfl) rfl ?_
        have e0 : (if ((f 280 36) - (f 280 60)).toInt < (f 280 (444 + 61 * k11 + 3)).toInt then (4 : Int32) else (0 : Int32)) = (4 : Int32) := by simp only [if_pos h3]
        rw [e0] at hJ
        exact hJ
      · refine fl_Tq.jt rfl (fl_bo rfl) (c2_le_t h3) rfl ?_
        refine fl_Tq.cI (c := (0 : Int32)) rfl (by decide +kernel) (fl_bo rfl) ?_
        have e0 : (if ((f 280 36) - (f 280 60)).toInt < (f 280 (444 + 61 * k11 + 3)).toInt then (4 : Int32) else (0 : Int32)) = (0 : Int32) := by simp only [if_neg h3]
        rw [e0] at hJ
        exact hJ
    refine hj194 ?_
    show fl_Tq _ 278 89 [some (.inr (.inr (.inl (76, 277)))), some (.inl (((y_warnings_a11 f k11) ||| (if ((f 280 34) - (f 280 60)).toInt < (r_voltsOf_v f (Int32.ofNat k11) k11).toInt then (1 : Int32) else (0 : Int32))) ||| (if (r_voltsOf_v f (Int32.ofNat k11) k11).toInt < ((f 280 35) + (f 280 60)).toInt then (2 : Int32) else (0 : Int32)))), some (.inl (f 280 60)), some (.inl (Int32.ofNat k11))] [.inl (if ((f 280 36) - (f 280 60)).toInt < (f 280 (444 + 61 * k11 + 3)).toInt then (4 : Int32) else (0 : Int32)), .inl (((y_warnings_a11 f k11) ||| (if ((f 280 34) - (f 280 60)).toInt < (r_voltsOf_v f (Int32.ofNat k11) k11).toInt then (1 : Int32) else (0 : Int32))) ||| (if (r_voltsOf_v f (Int32.ofNat k11) k11).toInt < ((f 280 35) + (f 280 60)).toInt then (2 : Int32) else (0 : Int32)))] (f, l) _
    refine fl_Tq.stp (pc' := 90) (lv' := [some (.inr (.inr (.inl (76, 277)))), some (.inl (((y_warnings_a11 f k11) ||| (if ((f 280 34) - (f 280 60)).toInt < (r_voltsOf_v f (Int32.ofNat k11) k11).toInt then (1 : Int32) else (0 : Int32))) ||| (if (r_voltsOf_v f (Int32.ofNat k11) k11).toInt < ((f 280 35) + (f 280 60)).toInt then (2 : Int32) else (0 : Int32)))), some (.inl (f 280 60)), some (.inl (Int32.ofNat k11))]) (st' := [.inl ((((y_warnings_a11 f k11) ||| (if ((f 280 34) - (f 280 60)).toInt < (r_voltsOf_v f (Int32.ofNat k11) k11).toInt then (1 : Int32) else (0 : Int32))) ||| (if (r_voltsOf_v f (Int32.ofNat k11) k11).toInt < ((f 280 35) + (f 280 60)).toInt then (2 : Int32) else (0 : Int32))) ||| (if ((f 280 36) - (f 280 60)).toInt < (f 280 (444 + 61 * k11 + 3)).toInt then (4 : Int32) else (0 : Int32)))]) (m' := (f, l)) rfl rfl (fl_bo rfl) rfl ?_
    refine fl_Tq.stp (pc' := 91) (lv' := [some (.inr (.inr (.inl (76, 277)))), some (.inl ((((y_warnings_a11 f k11) ||| (if ((f 280 34) - (f 280 60)).toInt < (r_voltsOf_v f (Int32.ofNat k11) k11).toInt then (1 : Int32) else (0 : Int32))) ||| (if (r_voltsOf_v f (Int32.ofNat k11) k11).toInt < ((f 280 35) + (f 280 60)).toInt then (2 : Int32) else (0 : Int32))) ||| (if ((f 280 36) - (f 280 60)).toInt < (f 280 (444 + 61 * k11 + 3)).toInt then (4 : Int32) else (0 : Int32)))), some (.inl (f 280 60)), some (.inl (Int32.ofNat k11))]) (st' := []) (m' := (f, l)) rfl rfl (fl_bo rfl) rfl ?_
    refine fl_Tq.stp (pc' := 92) (lv' := [some (.inr (.inr (.inl (76, 277)))), some (.inl ((((y_warnings_a11 f k11) ||| (if ((f 280 34) - (f 280 60)).toInt < (r_voltsOf_v f (Int32.ofNat k11) k11).toInt then (1 : Int32) else (0 : Int32))) ||| (if (r_voltsOf_v f (Int32.ofNat k11) k11).toInt < ((f 280 35) + (f 280 60)).toInt then (2 : Int32) else (0 : Int32))) ||| (if ((f 280 36) - (f 280 60)).toInt < (f 280 (444 + 61 * k11 + 3)).toInt then (4 : Int32) else (0 : Int32)))), some (.inl (f 280 60)), some (.inl (Int32.ofNat k11))]) (st' := [.inl ((((y_warnings_a11 f k11) ||| (if ((f 280 34) - (f 280 60)).toInt < (r_voltsOf_v f (Int32.ofNat k11) k11).toInt then (1 : Int32) else (0 : Int32))) ||| (if (r_voltsOf_v f (Int32.ofNat k11) k11).toInt < ((f 280 35) + (f 280 60)).toInt then (2 : Int32) else (0 : Int32))) ||| (if ((f 280 36) - (f 280 60)).toInt < (f 280 (444 + 61 * k11 + 3)).toInt then (4 : Int32) else (0 : Int32)))]) (m' := (f, l)) rfl rfl (fl_bo rfl) rfl ?_
    refine fl_Tq.stp (pc' := 93) (lv' := [some (.inr (.inr (.inl (76, 277)))), some (.inl ((((y_warnings_a11 f k11) ||| (if ((f 280 34) - (f 280 60)).toInt < (r_voltsOf_v f (Int32.ofNat k11) k11).toInt then (1 : Int32) else (0 : Int32))) ||| (if (r_voltsOf_v f (Int32.ofNat k11) k11).toInt < ((f 280 35) + (f 280 60)).toInt then (2 : Int32) else (0 : Int32))) ||| (if ((f 280 36) - (f 280 60)).toInt < (f 280 (444 + 61 * k11 + 3)).toInt then (4 : Int32) else (0 : Int32)))), some (.inl (f 280 60)), some (.inl (Int32.ofNat k11))]) (st' := [.inr (.inr (.inl (76, 277))), .inl ((((y_warnings_a11 f k11) ||| (if ((f 280 34) - (f 280 60)).toInt < (r_voltsOf_v f (Int32.ofNat k11) k11).toInt then (1 : Int32) else (0 : Int32))) ||| (if (r_voltsOf_v f (Int32.ofNat k11) k11).toInt < ((f 280 35) + (f 280 60)).toInt then (2 : Int32) else (0 : Int32))) ||| (if ((f 280 36) - (f 280 60)).toInt < (f 280 (444 + 61 * k11 + 3)).toInt then (4 : Int32) else (0 : Int32)))]) (m' := (f, l)) rfl rfl (fl_bo rfl) rfl ?_
    refine fl_Tq.stp (pc' := 94) (lv' := [some (.inr (.inr (.inl (76, 277)))), some (.inl ((((y_warnings_a11 f k11) ||| (if ((f 280 34) - (f 280 60)).toInt < (r_voltsOf_v f (Int32.ofNat k11) k11).toInt then (1 : Int32) else (0 : Int32))) ||| (if (r_voltsOf_v f (Int32.ofNat k11) k11).toInt < ((f 280 35) + (f 280 60)).toInt then (2 : Int32) else (0 : Int32))) ||| (if ((f 280 36) - (f 280 60)).toInt < (f 280 (444 + 61 * k11 + 3)).toInt then (4 : Int32) else (0 : Int32)))), some (.inl (f 280 60)), some (.inl (Int32.ofNat k11))]) (st' := [.inl (Int32.ofNat k11), .inr (.inr (.inl (76, 277))), .inl ((((y_warnings_a11 f k11) ||| (if ((f 280 34) - (f 280 60)).toInt < (r_voltsOf_v f (Int32.ofNat k11) k11).toInt then (1 : Int32) else (0 : Int32))) ||| (if (r_voltsOf_v f (Int32.ofNat k11) k11).toInt < ((f 280 35) + (f 280 60)).toInt then (2 : Int32) else (0 : Int32))) ||| (if ((f 280 36) - (f 280 60)).toInt < (f 280 (444 + 61 * k11 + 3)).toInt then (4 : Int32) else (0 : Int32)))]) (m' := (f, l)) rfl rfl (fl_bo rfl) rfl ?_
    refine fl_Tq.cI (c := (3 : Int32)) rfl (by decide +kernel) (fl_bo rfl) ?_
    refine fl_Tq.cal rfl rfl (fl_bo rfl) rfl ?_
    refine t2_get (C := k11) (W := 3) (v := f 280 (444 + 61 * k11 + 3)) (at_ofN (by omega)) (by decide +kernel) (by omega) (by decide) rfl ?_
    show fl_Tq _ 278 98 [some (.inr (.inr (.inl (76, 277)))), some (.inl ((((y_warnings_a11 f k11) ||| (if ((f 280 34) - (f 280 60)).toInt < (r_voltsOf_v f (Int32.ofNat k11) k11).toInt then (1 : Int32) else (0 : Int32))) ||| (if (r_voltsOf_v f (Int32.ofNat k11) k11).toInt < ((f 280 35) + (f 280 60)).toInt then (2 : Int32) else (0 : Int32))) ||| (if ((f 280 36) - (f 280 60)).toInt < (f 280 (444 + 61 * k11 + 3)).toInt then (4 : Int32) else (0 : Int32)))), some (.inl (f 280 60)), some (.inl (Int32.ofNat k11))] [.inl (f 280 (444 + 61 * k11 + 3)), .inl ((((y_warnings_a11 f k11) ||| (if ((f 280 34) - (f 280 60)).toInt < (r_voltsOf_v f (Int32.ofNat k11) k11).toInt then (1 : Int32) else (0 : Int32))) ||| (if (r_voltsOf_v f (Int32.ofNat k11) k11).toInt < ((f 280 35) + (f 280 60)).toInt then (2 : Int32) else (0 : Int32))) ||| (if ((f 280 36) - (f 280 60)).toInt < (f 280 (444 + 61 * k11 + 3)).toInt then (4 : Int32) else (0 : Int32)))] (f, l) _
    refine fl_Tq.stp (pc' := 99) (lv' := [some (.inr (.inr (.inl (76, 277)))), some (.inl ((((y_warnings_a11 f k11) ||| (if ((f 280 34) - (f 280 60)).toInt < (r_voltsOf_v f (Int32.ofNat k11) k11).toInt then (1 : Int32) else (0 : Int32))) ||| (if (r_voltsOf_v f (Int32.ofNat k11) k11).toInt < ((f 280 35) + (f 280 60)).toInt then (2 : Int32) else (0 : Int32))) ||| (if ((f 280 36) - (f 280 60)).toInt < (f 280 (444 + 61 * k11 + 3)).toInt then (4 : Int32) else (0 : Int32)))), some (.inl (f 280 60)), some (.inl (Int32.ofNat k11))]) (st' := [.inr (.inr (.inl (76, 277))), .inl (f 280 (444 + 61 * k11 + 3)), .inl ((((y_warnings_a11 f k11) ||| (if ((f 280 34) - (f 280 60)).toInt < (r_voltsOf_v f (Int32.ofNat k11) k11).toInt then (1 : Int32) else (0 : Int32))) ||| (if (r_voltsOf_v f (Int32.ofNat k11) k11).toInt < ((f 280 35) + (f 280 60)).toInt then (2 : Int32) else (0 : Int32))) ||| (if ((f 280 36) - (f 280 60)).toInt < (f 280 (444 + 61 * k11 + 3)).toInt then (4 : Int32) else (0 : Int32)))]) (m' := (f, l)) rfl rfl (fl_bo rfl) rfl ?_
    refine fl_Tq.cI (c := (3 : Int32)) rfl (by decide +kernel) (fl_bo rfl) ?_
    refine fl_Tq.cal rfl rfl (fl_bo rfl) rfl ?_
    refine t2_its (W := 3) (v := f 280 37) (by decide +kernel) (by decide) rfl ?_
    show fl_Tq _ 278 103 [some (.inr (.inr (.inl (76, 277)))), some (.inl ((((y_warnings_a11 f k11) ||| (if ((f 280 34) - (f 280 60)).toInt < (r_voltsOf_v f (Int32.ofNat k11) k11).toInt then (1 : Int32) else (0 : Int32))) ||| (if (r_voltsOf_v f (Int32.ofNat k11) k11).toInt < ((f 280 35) + (f 280 60)).toInt then (2 : Int32) else (0 : Int32))) ||| (if ((f 280 36) - (f 280 60)).toInt < (f 280 (444 + 61 * k11 + 3)).toInt then (4 : Int32) else (0 : Int32)))), some (.inl (f 280 60)), some (.inl (Int32.ofNat k11))] [.inl (f 280 37), .inl (f 280 (444 + 61 * k11 + 3)), .inl ((((y_warnings_a11 f k11) ||| (if ((f 280 34) - (f 280 60)).toInt < (r_voltsOf_v f (Int32.ofNat k11) k11).toInt then (1 : Int32) else (0 : Int32))) ||| (if (r_voltsOf_v f (Int32.ofNat k11) k11).toInt < ((f 280 35) + (f 280 60)).toInt then (2 : Int32) else (0 : Int32))) ||| (if ((f 280 36) - (f 280 60)).toInt < (f 280 (444 + 61 * k11 + 3)).toInt then (4 : Int32) else (0 : Int32)))] (f, l) _
    refine fl_Tq.stp (pc' := 104) (lv' := [some (.inr (.inr (.inl (76, 277)))), some (.inl ((((y_warnings_a11 f k11) ||| (if ((f 280 34) - (f 280 60)).toInt < (r_voltsOf_v f (Int32.ofNat k11) k11).toInt then (1 : Int32) else (0 : Int32))) ||| (if (r_voltsOf_v f (Int32.ofNat k11) k11).toInt < ((f 280 35) + (f 280 60)).toInt then (2 : Int32) else (0 : Int32))) ||| (if ((f 280 36) - (f 280 60)).toInt < (f 280 (444 + 61 * k11 + 3)).toInt then (4 : Int32) else (0 : Int32)))), some (.inl (f 280 60)), some (.inl (Int32.ofNat k11))]) (st' := [.inl (f 280 60), .inl (f 280 37), .inl (f 280 (444 + 61 * k11 + 3)), .inl ((((y_warnings_a11 f k11) ||| (if ((f 280 34) - (f 280 60)).toInt < (r_voltsOf_v f (Int32.ofNat k11) k11).toInt then (1 : Int32) else (0 : Int32))) ||| (if (r_voltsOf_v f (Int32.ofNat k11) k11).toInt < ((f 280 35) + (f 280 60)).toInt then (2 : Int32) else (0 : Int32))) ||| (if ((f 280 36) - (f 280 60)).toInt < (f 280 (444 + 61 * k11 + 3)).toInt then (4 : Int32) else (0 : Int32)))]) (m' := (f, l)) rfl rfl (fl_bo rfl) rfl ?_
    refine fl_Tq.stp (pc' := 105) (lv' := [some (.inr (.inr (.inl (76, 277)))), some (.inl ((((y_warnings_a11 f k11) ||| (if ((f 280 34) - (f 280 60)).toInt < (r_voltsOf_v f (Int32.ofNat k11) k11).toInt then (1 : Int32) else (0 : Int32))) ||| (if (r_voltsOf_v f (Int32.ofNat k11) k11).toInt < ((f 280 35) + (f 280 60)).toInt then (2 : Int32) else (0 : Int32))) ||| (if ((f 280 36) - (f 280 60)).toInt < (f 280 (444 + 61 * k11 + 3)).toInt then (4 : Int32) else (0 : Int32)))), some (.inl (f 280 60)), some (.inl (Int32.ofNat k11))]) (st' := [.inl ((f 280 37) + (f 280 60)), .inl (f 280 (444 + 61 * k11 + 3)), .inl ((((y_warnings_a11 f k11) ||| (if ((f 280 34) - (f 280 60)).toInt < (r_voltsOf_v f (Int32.ofNat k11) k11).toInt then (1 : Int32) else (0 : Int32))) ||| (if (r_voltsOf_v f (Int32.ofNat k11) k11).toInt < ((f 280 35) + (f 280 60)).toInt then (2 : Int32) else (0 : Int32))) ||| (if ((f 280 36) - (f 280 60)).toInt < (f 280 (444 + 61 * k11 + 3)).toInt then (4 : Int32) else (0 : Int32)))]) (m' := (f, l)) rfl rfl (fl_bo rfl) rfl ?_
    have hj195 : fl_Tq (pw_P L xs) 278 114 [some (.inr (.inr (.inl (76, 277)))), some (.inl ((((y_warnings_a11 f k11) ||| (if ((f 280 34) - (f 280 60)).toInt < (r_voltsOf_v f (Int32.ofNat k11) k11).toInt then (1 : Int32) else (0 : Int32))) ||| (if (r_voltsOf_v f (Int32.ofNat k11) k11).toInt < ((f 280 35) + (f 280 60)).toInt then (2 : Int32) else (0 : Int32))) ||| (if ((f 280 36) - (f 280 60)).toInt < (f 280 (444 + 61 * k11 + 3)).toInt then (4 : Int32) else (0 : Int32)))), some (.inl (f 280 60)), some (.inl (Int32.ofNat k11))] [.inl (if (f 280 (444 + 61 * k11 + 3)).toInt < ((f 280 37) + (f 280 60)).toInt then (8 : Int32) else (0 : Int32)), .inl ((((y_warnings_a11 f k11) ||| (if ((f 280 34) - (f 280 60)).toInt < (r_voltsOf_v f (Int32.ofNat k11) k11).toInt then (1 : Int32) else (0 : Int32))) ||| (if (r_voltsOf_v f (Int32.ofNat k11) k11).toInt < ((f 280 35) + (f 280 60)).toInt then (2 : Int32) else (0 : Int32))) ||| (if ((f 280 36) - (f 280 60)).toInt < (f 280 (444 + 61 * k11 + 3)).toInt then (4 : Int32) else (0 : Int32)))] (f, l) Q → fl_Tq (pw_P L xs) 278 105 [some (.inr (.inr (.inl (76, 277)))), some (.inl ((((y_warnings_a11 f k11) ||| (if ((f 280 34) - (f 280 60)).toInt < (r_voltsOf_v f (Int32.ofNat k11) k11).toInt then (1 : Int32) else (0 : Int32))) ||| (if (r_voltsOf_v f (Int32.ofNat k11) k11).toInt < ((f 280 35) + (f 280 60)).toInt then (2 : Int32) else (0 : Int32))) ||| (if ((f 280 36) - (f 280 60)).toInt < (f 280 (444 + 61 * k11 + 3)).toInt then (4 : Int32) else (0 : Int32)))), some (.inl (f 280 60)), some (.inl (Int32.ofNat k11))] [.inl ((f 280 37) + (f 280 60)), .inl (f 280 (444 + 61 * k11 + 3)), .inl ((((y_warnings_a11 f k11) ||| (if ((f 280 34) - (f 280 60)).toInt < (r_voltsOf_v f (Int32.ofNat k11) k11).toInt then (1 : Int32) else (0 : Int32))) ||| (if (r_voltsOf_v f (Int32.ofNat k11) k11).toInt < ((f 280 35) + (f 280 60)).toInt then (2 : Int32) else (0 : Int32))) ||| (if ((f 280 36) - (f 280 60)).toInt < (f 280 (444 + 61 * k11 + 3)).toInt then (4 : Int32) else (0 : Int32)))] (f, l) Q := by
      intro hJ
      by_cases h4 : (f 280 (444 + 61 * k11 + 3)).toInt < ((f 280 37) + (f 280 60)).toInt
      · refine fl_Tq.jf rfl (fl_bo rfl) (c2_ge_f h4) rfl ?_
        refine fl_Tq.cB (c := (8 : Int32)) rfl (by decide +kernel) (fl_bo rfl) ?_
        refine fl_Tq.stp (pc' := 114) (lv' := [some (.inr (.inr (.inl (76, 277)))), some (.inl ((((y_warnings_a11 f k11) ||| (if ((f 280 34) - (f 280 60)).toInt < (r_voltsOf_v f (Int32.ofNat k11) k11).toInt then (1 : Int32) else (0 : Int32))) ||| (if (r_voltsOf_v f (Int32.ofNat k11) k11).toInt < ((f 280 35) + (f 280 60)).toInt then (2 : Int32) else (0 : Int32))) ||| (if ((f 280 36) - (f 280 60)).toInt < (f 280 (444 + 61 * k11 + 3)).toInt then (4 : Int32) else (0 : Int32)))), some (.inl (f 280 60)), some (.inl (Int32.ofNat k11))]) (st' := [.inl (8 : Int32), .inl ((((y_warnings_a11 f k11) ||| (if ((f 280 34) - (f 280 60)).toInt < (r_voltsOf_v f (Int32.ofNat k11) k11).toInt then (1 : Int32) else (0 : Int32))) ||| (if (r_voltsOf_v f (Int32.ofNat k11) k11).toInt < ((f 280 35) + (f 280 60)).toInt then (2 : Int32) else (0 : Int32))) ||| (if ((f 280 36) - (f 280 60)).toInt < (f 280 (444 + 61 * k11 + 3)).toInt then (4 : Int32) else (0 : Int32)))]) (m' := (f, l)) rfl rfl (fl_bo rfl) rfl ?_
        have e0 : (if (f 280 (444 + 61 * k11 + 3)).toInt < ((f 280 37) + (f 280 60)).toInt then (8 : Int32) else (0 : Int32)) = (8 : Int32) := by simp only [if_pos h4]
        rw [e0] at hJ
        exact hJ
      · refine fl_Tq.jt rfl (fl_bo rfl) (c2_ge_t h4) rfl ?_
        refine fl_Tq.cI (c := (0 : Int32)) rfl (by decide +kernel) (fl_bo rfl) ?_
        have e0 : (if (f 280 (444 + 61 * k11 + 3)).toInt < ((f 280 37) + (f 280 60)).toInt then (8 : Int32) else (0 : Int32)) = (0 : Int32) := by simp only [if_neg h4]
        rw [e0] at hJ
        exact hJ
    refine hj195 ?_
    show fl_Tq _ 278 114 [some (.inr (.inr (.inl (76, 277)))), some (.inl ((((y_warnings_a11 f k11) ||| (if ((f 280 34) - (f 280 60)).toInt < (r_voltsOf_v f (Int32.ofNat k11) k11).toInt then (1 : Int32) else (0 : Int32))) ||| (if (r_voltsOf_v f (Int32.ofNat k11) k11).toInt < ((f 280 35) + (f 280 60)).toInt then (2 : Int32) else (0 : Int32))) ||| (if ((f 280 36) - (f 280 60)).toInt < (f 280 (444 + 61 * k11 + 3)).toInt then (4 : Int32) else (0 : Int32)))), some (.inl (f 280 60)), some (.inl (Int32.ofNat k11))] [.inl (if (f 280 (444 + 61 * k11 + 3)).toInt < ((f 280 37) + (f 280 60)).toInt then (8 : Int32) else (0 : Int32)), .inl ((((y_warnings_a11 f k11) ||| (if ((f 280 34) - (f 280 60)).toInt < (r_voltsOf_v f (Int32.ofNat k11) k11).toInt then (1 : Int32) else (0 : Int32))) ||| (if (r_voltsOf_v f (Int32.ofNat k11) k11).toInt < ((f 280 35) + (f 280 60)).toInt then (2 : Int32) else (0 : Int32))) ||| (if ((f 280 36) - (f 280 60)).toInt < (f 280 (444 + 61 * k11 + 3)).toInt then (4 : Int32) else (0 : Int32)))] (f, l) _
    refine fl_Tq.stp (pc' := 115) (lv' := [some (.inr (.inr (.inl (76, 277)))), some (.inl ((((y_warnings_a11 f k11) ||| (if ((f 280 34) - (f 280 60)).toInt < (r_voltsOf_v f (Int32.ofNat k11) k11).toInt then (1 : Int32) else (0 : Int32))) ||| (if (r_voltsOf_v f (Int32.ofNat k11) k11).toInt < ((f 280 35) + (f 280 60)).toInt then (2 : Int32) else (0 : Int32))) ||| (if ((f 280 36) - (f 280 60)).toInt < (f 280 (444 + 61 * k11 + 3)).toInt then (4 : Int32) else (0 : Int32)))), some (.inl (f 280 60)), some (.inl (Int32.ofNat k11))]) (st' := [.inl (((((y_warnings_a11 f k11) ||| (if ((f 280 34) - (f 280 60)).toInt < (r_voltsOf_v f (Int32.ofNat k11) k11).toInt then (1 : Int32) else (0 : Int32))) ||| (if (r_voltsOf_v f (Int32.ofNat k11) k11).toInt < ((f 280 35) + (f 280 60)).toInt then (2 : Int32) else (0 : Int32))) ||| (if ((f 280 36) - (f 280 60)).toInt < (f 280 (444 + 61 * k11 + 3)).toInt then (4 : Int32) else (0 : Int32))) ||| (if (f 280 (444 + 61 * k11 + 3)).toInt < ((f 280 37) + (f 280 60)).toInt then (8 : Int32) else (0 : Int32)))]) (m' := (f, l)) rfl rfl (fl_bo rfl) rfl ?_
    refine fl_Tq.stp (pc' := 116) (lv' := [some (.inr (.inr (.inl (76, 277)))), some (.inl (((((y_warnings_a11 f k11) ||| (if ((f 280 34) - (f 280 60)).toInt < (r_voltsOf_v f (Int32.ofNat k11) k11).toInt then (1 : Int32) else (0 : Int32))) ||| (if (r_voltsOf_v f (Int32.ofNat k11) k11).toInt < ((f 280 35) + (f 280 60)).toInt then (2 : Int32) else (0 : Int32))) ||| (if ((f 280 36) - (f 280 60)).toInt < (f 280 (444 + 61 * k11 + 3)).toInt then (4 : Int32) else (0 : Int32))) ||| (if (f 280 (444 + 61 * k11 + 3)).toInt < ((f 280 37) + (f 280 60)).toInt then (8 : Int32) else (0 : Int32)))), some (.inl (f 280 60)), some (.inl (Int32.ofNat k11))]) (st' := []) (m' := (f, l)) rfl rfl (fl_bo rfl) rfl ?_
    refine fl_Tq.stp (pc' := 117) (lv' := [some (.inr (.inr (.inl (76, 277)))), some (.inl (((((y_warnings_a11 f k11) ||| (if ((f 280 34) - (f 280 60)).toInt < (r_voltsOf_v f (Int32.ofNat k11) k11).toInt then (1 : Int32) else (0 : Int32))) ||| (if (r_voltsOf_v f (Int32.ofNat k11) k11).toInt < ((f 280 35) + (f 280 60)).toInt then (2 : Int32) else (0 : Int32))) ||| (if ((f 280 36) - (f 280 60)).toInt < (f 280 (444 + 61 * k11 + 3)).toInt then (4 : Int32) else (0 : Int32))) ||| (if (f 280 (444 + 61 * k11 + 3)).toInt < ((f 280 37) + (f 280 60)).toInt then (8 : Int32) else (0 : Int32)))), some (.inl (f 280 60)), some (.inl (Int32.ofNat k11))]) (st' := [.inl (((((y_warnings_a11 f k11) ||| (if ((f 280 34) - (f 280 60)).toInt < (r_voltsOf_v f (Int32.ofNat k11) k11).toInt then (1 : Int32) else (0 : Int32))) ||| (if (r_voltsOf_v f (Int32.ofNat k11) k11).toInt < ((f 280 35) + (f 280 60)).toInt then (2 : Int32) else (0 : Int32))) ||| (if ((f 280 36) - (f 280 60)).toInt < (f 280 (444 + 61 * k11 + 3)).toInt then (4 : Int32) else (0 : Int32))) ||| (if (f 280 (444 + 61 * k11 + 3)).toInt < ((f 280 37) + (f 280 60)).toInt then (8 : Int32) else (0 : Int32)))]) (m' := (f, l)) rfl rfl (fl_bo rfl) rfl ?_
    refine fl_Tq.stp (pc' := 118) (lv' := [some (.inr (.inr (.inl (76, 277)))), some (.inl (((((y_warnings_a11 f k11) ||| (if ((f 280 34) - (f 280 60)).toInt < (r_voltsOf_v f (Int32.ofNat k11) k11).toInt then (1 : Int32) else (0 : Int32))) ||| (if (r_voltsOf_v f (Int32.ofNat k11) k11).toInt < ((f 280 35) + (f 280 60)).toInt then (2 : Int32) else (0 : Int32))) ||| (if ((f 280 36) - (f 280 60)).toInt < (f 280 (444 + 61 * k11 + 3)).toInt then (4 : Int32) else (0 : Int32))) ||| (if (f 280 (444 + 61 * k11 + 3)).toInt < ((f 280 37) + (f 280 60)).toInt then (8 : Int32) else (0 : Int32)))), some (.inl (f 280 60)), some (.inl (Int32.ofNat k11))]) (st' := [.inr (.inr (.inl (76, 277))), .inl (((((y_warnings_a11 f k11) ||| (if ((f 280 34) - (f 280 60)).toInt < (r_voltsOf_v f (Int32.ofNat k11) k11).toInt then (1 : Int32) else (0 : Int32))) ||| (if (r_voltsOf_v f (Int32.ofNat k11) k11).toInt < ((f 280 35) + (f 280 60)).toInt then (2 : Int32) else (0 : Int32))) ||| (if ((f 280 36) - (f 280 60)).toInt < (f 280 (444 + 61 * k11 + 3)).toInt then (4 : Int32) else (0 : Int32))) ||| (if (f 280 (444 + 61 * k11 + 3)).toInt < ((f 280 37) + (f 280 60)).toInt then (8 : Int32) else (0 : Int32)))]) (m' := (f, l)) rfl rfl (fl_bo rfl) rfl ?_
    refine fl_Tq.cal rfl rfl (fl_bo rfl) rfl ?_
    refine r_spreadOf_q hn hk ?_
    show fl_Tq _ 278 121 [some (.inr (.inr (.inl (76, 277)))), some (.inl (((((y_warnings_a11 f k11) ||| (if ((f 280 34) - (f 280 60)).toInt < (r_voltsOf_v f (Int32.ofNat k11) k11).toInt then (1 : Int32) else (0 : Int32))) ||| (if (r_voltsOf_v f (Int32.ofNat k11) k11).toInt < ((f 280 35) + (f 280 60)).toInt then (2 : Int32) else (0 : Int32))) ||| (if ((f 280 36) - (f 280 60)).toInt < (f 280 (444 + 61 * k11 + 3)).toInt then (4 : Int32) else (0 : Int32))) ||| (if (f 280 (444 + 61 * k11 + 3)).toInt < ((f 280 37) + (f 280 60)).toInt then (8 : Int32) else (0 : Int32)))), some (.inl (f 280 60)), some (.inl (Int32.ofNat k11))] [.inl (r_spreadOf_v f), .inl (((((y_warnings_a11 f k11) ||| (if ((f 280 34) - (f 280 60)).toInt < (r_voltsOf_v f (Int32.ofNat k11) k11).toInt then (1 : Int32) else (0 : Int32))) ||| (if (r_voltsOf_v f (Int32.ofNat k11) k11).toInt < ((f 280 35) + (f 280 60)).toInt then (2 : Int32) else (0 : Int32))) ||| (if ((f 280 36) - (f 280 60)).toInt < (f 280 (444 + 61 * k11 + 3)).toInt then (4 : Int32) else (0 : Int32))) ||| (if (f 280 (444 + 61 * k11 + 3)).toInt < ((f 280 37) + (f 280 60)).toInt then (8 : Int32) else (0 : Int32)))] (f, l) _
    refine fl_Tq.stp (pc' := 122) (lv' := [some (.inr (.inr (.inl (76, 277)))), some (.inl (((((y_warnings_a11 f k11) ||| (if ((f 280 34) - (f 280 60)).toInt < (r_voltsOf_v f (Int32.ofNat k11) k11).toInt then (1 : Int32) else (0 : Int32))) ||| (if (r_voltsOf_v f (Int32.ofNat k11) k11).toInt < ((f 280 35) + (f 280 60)).toInt then (2 : Int32) else (0 : Int32))) ||| (if ((f 280 36) - (f 280 60)).toInt < (f 280 (444 + 61 * k11 + 3)).toInt then (4 : Int32) else (0 : Int32))) ||| (if (f 280 (444 + 61 * k11 + 3)).toInt < ((f 280 37) + (f 280 60)).toInt then (8 : Int32) else (0 : Int32)))), some (.inl (f 280 60)), some (.inl (Int32.ofNat k11))]) (st' := [.inr (.inr (.inl (76, 277))), .inl (r_spreadOf_v f), .inl (((((y_warnings_a11 f k11) ||| (if ((f 280 34) - (f 280 60)).toInt < (r_voltsOf_v f (Int32.ofNat k11) k11).toInt then (1 : Int32) else (0 : Int32))) ||| (if (r_voltsOf_v f (Int32.ofNat k11) k11).toInt < ((f 280 35) + (f 280 60)).toInt then (2 : Int32) else (0 : Int32))) ||| (if ((f 280 36) - (f 280 60)).toInt < (f 280 (444 + 61 * k11 + 3)).toInt then (4 : Int32) else (0 : Int32))) ||| (if (f 280 (444 + 61 * k11 + 3)).toInt < ((f 280 37) + (f 280 60)).toInt then (8 : Int32) else (0 : Int32)))]) (m' := (f, l)) rfl rfl (fl_bo rfl) rfl ?_
    refine fl_Tq.cB (c := (17 : Int32)) rfl (by decide +kernel) (fl_bo rfl) ?_
    refine fl_Tq.cal rfl rfl (fl_bo rfl) rfl ?_
    refine t2_its (W := 17) (v := f 280 51) (by decide +kernel) (by decide) rfl ?_
    show fl_Tq _ 278 127 [some (.inr (.inr (.inl (76, 277)))), some (.inl (((((y_warnings_a11 f k11) ||| (if ((f 280 34) - (f 280 60)).toInt < (r_voltsOf_v f (Int32.ofNat k11) k11).toInt then (1 : Int32) else (0 : Int32))) ||| (if (r_voltsOf_v f (Int32.ofNat k11) k11).toInt < ((f 280 35) + (f 280 60)).toInt then (2 : Int32) else (0 : Int32))) ||| (if ((f 280 36) - (f 280 60)).toInt < (f 280 (444 + 61 * k11 + 3)).toInt then (4 : Int32) else (0 : Int32))) ||| (if (f 280 (444 + 61 * k11 + 3)).toInt < ((f 280 37) + (f 280 60)).toInt then (8 : Int32) else (0 : Int32)))), some (.inl (f 280 60)), some (.inl (Int32.ofNat k11))] [.inl (f 280 51), .inl (r_spreadOf_v f), .inl (((((y_warnings_a11 f k11) ||| (if ((f 280 34) - (f 280 60)).toInt < (r_voltsOf_v f (Int32.ofNat k11) k11).toInt then (1 : Int32) else (0 : Int32))) ||| (if (r_voltsOf_v f (Int32.ofNat k11) k11).toInt < ((f 280 35) + (f 280 60)).toInt then (2 : Int32) else (0 : Int32))) ||| (if ((f 280 36) - (f 280 60)).toInt < (f 280 (444 + 61 * k11 + 3)).toInt then (4 : Int32) else (0 : Int32))) ||| (if (f 280 (444 + 61 * k11 + 3)).toInt < ((f 280 37) + (f 280 60)).toInt then (8 : Int32) else (0 : Int32)))] (f, l) _
    refine fl_Tq.stp (pc' := 128) (lv' := [some (.inr (.inr (.inl (76, 277)))), some (.inl (((((y_warnings_a11 f k11) ||| (if ((f 280 34) - (f 280 60)).toInt < (r_voltsOf_v f (Int32.ofNat k11) k11).toInt then (1 : Int32) else (0 : Int32))) ||| (if (r_voltsOf_v f (Int32.ofNat k11) k11).toInt < ((f 280 35) + (f 280 60)).toInt then (2 : Int32) else (0 : Int32))) ||| (if ((f 280 36) - (f 280 60)).toInt < (f 280 (444 + 61 * k11 + 3)).toInt then (4 : Int32) else (0 : Int32))) ||| (if (f 280 (444 + 61 * k11 + 3)).toInt < ((f 280 37) + (f 280 60)).toInt then (8 : Int32) else (0 : Int32)))), some (.inl (f 280 60)), some (.inl (Int32.ofNat k11))]) (st' := [.inl (f 280 60), .inl (f 280 51), .inl (r_spreadOf_v f), .inl (((((y_warnings_a11 f k11) ||| (if ((f 280 34) - (f 280 60)).toInt < (r_voltsOf_v f (Int32.ofNat k11) k11).toInt then (1 : Int32) else (0 : Int32))) ||| (if (r_voltsOf_v f (Int32.ofNat k11) k11).toInt < ((f 280 35) + (f 280 60)).toInt then (2 : Int32) else (0 : Int32))) ||| (if ((f 280 36) - (f 280 60)).toInt < (f 280 (444 + 61 * k11 + 3)).toInt then (4 : Int32) else (0 : Int32))) ||| (if (f 280 (444 + 61 * k11 + 3)).toInt < ((f 280 37) + (f 280 60)).toInt then (8 : Int32) else (0 : Int32)))]) (m' := (f, l)) rfl rfl (fl_bo rfl) rfl ?_
    refine fl_Tq.stp (pc' := 129) (lv' := [some (.inr (.inr (.inl (76, 277)))), some (.inl (((((y_warnings_a11 f k11) ||| (if ((f 280 34) - (f 280 60)).toInt < (r_voltsOf_v f (Int32.ofNat k11) k11).toInt then (1 : Int32) else (0 : Int32))) ||| (if (r_voltsOf_v f (Int32.ofNat k11) k11).toInt < ((f 280 35) + (f 280 60)).toInt then (2 : Int32) else (0 : Int32))) ||| (if ((f 280 36) - (f 280 60)).toInt < (f 280 (444 + 61 * k11 + 3)).toInt then (4 : Int32) else (0 : Int32))) ||| (if (f 280 (444 + 61 * k11 + 3)).toInt < ((f 280 37) + (f 280 60)).toInt then (8 : Int32) else (0 : Int32)))), some (.inl (f 280 60)), some (.inl (Int32.ofNat k11))]) (st' := [.inl ((f 280 51) - (f 280 60)), .inl (r_spreadOf_v f), .inl (((((y_warnings_a11 f k11) ||| (if ((f 280 34) - (f 280 60)).toInt < (r_voltsOf_v f (Int32.ofNat k11) k11).toInt then (1 : Int32) else (0 : Int32))) ||| (if (r_voltsOf_v f (Int32.ofNat k11) k11).toInt < ((f 280 35) + (f 280 60)).toInt then (2 : Int32) else (0 : Int32))) ||| (if ((f 280 36) - (f 280 60)).toInt < (f 280 (444 + 61 * k11 + 3)).toInt then (4 : Int32) else (0 : Int32))) ||| (if (f 280 (444 + 61 * k11 + 3)).toInt < ((f 280 37) + (f 280 60)).toInt then (8 : Int32) else (0 : Int32)))]) (m' := (f, l)) rfl rfl (fl_bo rfl) rfl ?_
    have hj196 : fl_Tq (pw_P L xs) 278 139 [some (.inr (.inr (.inl (76, 277)))), some (.inl (((((y_warnings_a11 f k11) ||| (if ((f 280 34) - (f 280 60)).toInt < (r_voltsOf_v f (Int32.ofNat k11) k11).toInt then (1 : Int32) else (0 : Int32))) ||| (if (r_voltsOf_v f (Int32.ofNat k11) k11).toInt < ((f 280 35) + (f 280 60)).toInt then (2 : Int32) else (0 : Int32))) ||| (if ((f 280 36) - (f 280 60)).toInt < (f 280 (444 + 61 * k11 + 3)).toInt then (4 : Int32) else (0 : Int32))) ||| (if (f 280 (444 + 61 * k11 + 3)).toInt < ((f 280 37) + (f 280 60)).toInt then (8 : Int32) else (0 : Int32)))), some (.inl (f 280 60)), some (.inl (Int32.ofNat k11))] [.inl (if ((f 280 51) - (f 280 60)).toInt < (r_spreadOf_v f).toInt then (128 : Int32) else (0 : Int32)), .inl (((((y_warnings_a11 f k11) ||| (if ((f 280 34) - (f 280 60)).toInt < (r_voltsOf_v f (Int32.ofNat k11) k11).toInt then (1 : Int32) else (0 : Int32))) ||| (if (r_voltsOf_v f (Int32.ofNat k11) k11).toInt < ((f 280 35) + (f 280 60)).toInt then (2 : Int32) else (0 : Int32))) ||| (if ((f 280 36) - (f 280 60)).toInt < (f 280 (444 + 61 * k11 + 3)).toInt then (4 : Int32) else (0 : Int32))) ||| (if (f 280 (444 + 61 * k11 + 3)).toInt < ((f 280 37) + (f 280 60)).toInt then (8 : Int32) else (0 : Int32)))] (f, l) Q → fl_Tq (pw_P L xs) 278 129 [some (.inr (.inr (.inl (76, 277)))), some (.inl (((((y_warnings_a11 f k11) ||| (if ((f 280 34) - (f 280 60)).toInt < (r_voltsOf_v f (Int32.ofNat k11) k11).toInt then (1 : Int32) else (0 : Int32))) ||| (if (r_voltsOf_v f (Int32.ofNat k11) k11).toInt < ((f 280 35) + (f 280 60)).toInt then (2 : Int32) else (0 : Int32))) ||| (if ((f 280 36) - (f 280 60)).toInt < (f 280 (444 + 61 * k11 + 3)).toInt then (4 : Int32) else (0 : Int32))) ||| (if (f 280 (444 + 61 * k11 + 3)).toInt < ((f 280 37) + (f 280 60)).toInt then (8 : Int32) else (0 : Int32)))), some (.inl (f 280 60)), some (.inl (Int32.ofNat k11))] [.inl ((f 280 51) - (f 280 60)), .inl (r_spreadOf_v f), .inl (((((y_warnings_a11 f k11) ||| (if ((f 280 34) - (f 280 60)).toInt < (r_voltsOf_v f (Int32.ofNat k11) k11).toInt then (1 : Int32) else (0 : Int32))) ||| (if (r_voltsOf_v f (Int32.ofNat k11) k11).toInt < ((f 280 35) + (f 280 60)).toInt then (2 : Int32) else (0 : Int32))) ||| (if ((f 280 36) - (f 280 60)).toInt < (f 280 (444 + 61 * k11 + 3)).toInt then (4 : Int32) else (0 : Int32))) ||| (if (f 280 (444 + 61 * k11 + 3)).toInt < ((f 280 37) + (f 280 60)).toInt then (8 : Int32) else (0 : Int32)))] (f, l) Q := by
      intro hJ
      by_cases h5 : ((f 280 51) - (f 280 60)).toInt < (r_spreadOf_v f).toInt
      · refine fl_Tq.jf rfl (fl_bo rfl) (c2_le_f h5) rfl ?_
        refine fl_Tq.cS (c := (128 : Int32)) rfl (by decide +kernel) (fl_bo rfl) ?_
        refine fl_Tq.stp (pc' := 139) (lv' := [some (.inr (.inr (.inl (76, 277)))), some (.inl (((((y_warnings_a11 f k11) ||| (if ((f 280 34) - (f 280 60)).toInt < (r_voltsOf_v f (Int32.ofNat k11) k11).toInt then (1 : Int32) else (0 : Int32))) ||| (if (r_voltsOf_v f (Int32.ofNat k11) k11).toInt < ((f 280 35) + (f 280 60)).toInt then (2 : Int32) else (0 : Int32))) ||| (if ((f 280 36) - (f 280 60)).toInt < (f 280 (444 + 61 * k11 + 3)).toInt then (4 : Int32) else (0 : Int32))) ||| (if (f 280 (444 + 61 * k11 + 3)).toInt < ((f 280 37) + (f 280 60)).toInt then (8 : Int32) else (0 : Int32)))), some (.inl (f 280 60)), some (.inl (Int32.ofNat k11))]) (st' := [.inl (128 : Int32), .inl (((((y_warnings_a11 f k11) ||| (if ((f 280 34) - (f 280 60)).toInt < (r_voltsOf_v f (Int32.ofNat k11) k11).toInt then (1 : Int32) else (0 : Int32))) ||| (if (r_voltsOf_v f (Int32.ofNat k11) k11).toInt < ((f 280 35) + (f 280 60)).toInt then (2 : Int32) else (0 : Int32))) ||| (if ((f 280 36) - (f 280 60)).toInt < (f 280 (444 + 61 * k11 + 3)).toInt then (4 : Int32) else (0 : Int32))) ||| (if (f 280 (444 + 61 * k11 + 3)).toInt < ((f 280 37) + (f 280 60)).toInt then (8 : Int32) else (0 : Int32)))]) (m' := (f, l)) rfl rfl (fl_bo rfl) rfl ?_
        have e0 : (if ((f 280 51) - (f 280 60)).toInt < (r_spreadOf_v f).toInt then (128 : Int32) else (0 : Int32)) = (128 : Int32) := by simp only [if_pos h5]
        rw [e0] at hJ
        exact hJ
      · refine fl_Tq.jt rfl (fl_bo rfl) (c2_le_t h5) rfl ?_
        refine fl_Tq.cI (c := (0 : Int32)) rfl (by decide +kernel) (fl_bo rfl) ?_
        have e0 : (if ((f 280 51) - (f 280 60)).toInt < (r_spreadOf_v f).toInt then (128 : Int32) else (0 : Int32)) = (0 : Int32) := by simp only [if_neg h5]
        rw [e0] at hJ
        exact hJ
    refine hj196 ?_
    show fl_Tq _ 278 139 [some (.inr (.inr (.inl (76, 277)))), some (.inl (((((y_warnings_a11 f k11) ||| (if ((f 280 34) - (f 280 60)).toInt < (r_voltsOf_v f (Int32.ofNat k11) k11).toInt then (1 : Int32) else (0 : Int32))) ||| (if (r_voltsOf_v f (Int32.ofNat k11) k11).toInt < ((f 280 35) + (f 280 60)).toInt then (2 : Int32) else (0 : Int32))) ||| (if ((f 280 36) - (f 280 60)).toInt < (f 280 (444 + 61 * k11 + 3)).toInt then (4 : Int32) else (0 : Int32))) ||| (if (f 280 (444 + 61 * k11 + 3)).toInt < ((f 280 37) + (f 280 60)).toInt then (8 : Int32) else (0 : Int32)))), some (.inl (f 280 60)), some (.inl (Int32.ofNat k11))] [.inl (if ((f 280 51) - (f 280 60)).toInt < (r_spreadOf_v f).toInt then (128 : Int32) else (0 : Int32)), .inl (((((y_warnings_a11 f k11) ||| (if ((f 280 34) - (f 280 60)).toInt < (r_voltsOf_v f (Int32.ofNat k11) k11).toInt then (1 : Int32) else (0 : Int32))) ||| (if (r_voltsOf_v f (Int32.ofNat k11) k11).toInt < ((f 280 35) + (f 280 60)).toInt then (2 : Int32) else (0 : Int32))) ||| (if ((f 280 36) - (f 280 60)).toInt < (f 280 (444 + 61 * k11 + 3)).toInt then (4 : Int32) else (0 : Int32))) ||| (if (f 280 (444 + 61 * k11 + 3)).toInt < ((f 280 37) + (f 280 60)).toInt then (8 : Int32) else (0 : Int32)))] (f, l) _
    refine fl_Tq.stp (pc' := 140) (lv' := [some (.inr (.inr (.inl (76, 277)))), some (.inl (((((y_warnings_a11 f k11) ||| (if ((f 280 34) - (f 280 60)).toInt < (r_voltsOf_v f (Int32.ofNat k11) k11).toInt then (1 : Int32) else (0 : Int32))) ||| (if (r_voltsOf_v f (Int32.ofNat k11) k11).toInt < ((f 280 35) + (f 280 60)).toInt then (2 : Int32) else (0 : Int32))) ||| (if ((f 280 36) - (f 280 60)).toInt < (f 280 (444 + 61 * k11 + 3)).toInt then (4 : Int32) else (0 : Int32))) ||| (if (f 280 (444 + 61 * k11 + 3)).toInt < ((f 280 37) + (f 280 60)).toInt then (8 : Int32) else (0 : Int32)))), some (.inl (f 280 60)), some (.inl (Int32.ofNat k11))]) (st' := [.inl ((((((y_warnings_a11 f k11) ||| (if ((f 280 34) - (f 280 60)).toInt < (r_voltsOf_v f (Int32.ofNat k11) k11).toInt then (1 : Int32) else (0 : Int32))) ||| (if (r_voltsOf_v f (Int32.ofNat k11) k11).toInt < ((f 280 35) + (f 280 60)).toInt then (2 : Int32) else (0 : Int32))) ||| (if ((f 280 36) - (f 280 60)).toInt < (f 280 (444 + 61 * k11 + 3)).toInt then (4 : Int32) else (0 : Int32))) ||| (if (f 280 (444 + 61 * k11 + 3)).toInt < ((f 280 37) + (f 280 60)).toInt then (8 : Int32) else (0 : Int32))) ||| (if ((f 280 51) - (f 280 60)).toInt < (r_spreadOf_v f).toInt then (128 : Int32) else (0 : Int32)))]) (m' := (f, l)) rfl rfl (fl_bo rfl) rfl ?_
    refine fl_Tq.stp (pc' := 141) (lv' := [some (.inr (.inr (.inl (76, 277)))), some (.inl ((((((y_warnings_a11 f k11) ||| (if ((f 280 34) - (f 280 60)).toInt < (r_voltsOf_v f (Int32.ofNat k11) k11).toInt then (1 : Int32) else (0 : Int32))) ||| (if (r_voltsOf_v f (Int32.ofNat k11) k11).toInt < ((f 280 35) + (f 280 60)).toInt then (2 : Int32) else (0 : Int32))) ||| (if ((f 280 36) - (f 280 60)).toInt < (f 280 (444 + 61 * k11 + 3)).toInt then (4 : Int32) else (0 : Int32))) ||| (if (f 280 (444 + 61 * k11 + 3)).toInt < ((f 280 37) + (f 280 60)).toInt then (8 : Int32) else (0 : Int32))) ||| (if ((f 280 51) - (f 280 60)).toInt < (r_spreadOf_v f).toInt then (128 : Int32) else (0 : Int32)))), some (.inl (f 280 60)), some (.inl (Int32.ofNat k11))]) (st' := []) (m' := (f, l)) rfl rfl (fl_bo rfl) rfl ?_
    refine fl_Tq.stp (pc' := 144) (lv' := [some (.inr (.inr (.inl (76, 277)))), some (.inl ((((((y_warnings_a11 f k11) ||| (if ((f 280 34) - (f 280 60)).toInt < (r_voltsOf_v f (Int32.ofNat k11) k11).toInt then (1 : Int32) else (0 : Int32))) ||| (if (r_voltsOf_v f (Int32.ofNat k11) k11).toInt < ((f 280 35) + (f 280 60)).toInt then (2 : Int32) else (0 : Int32))) ||| (if ((f 280 36) - (f 280 60)).toInt < (f 280 (444 + 61 * k11 + 3)).toInt then (4 : Int32) else (0 : Int32))) ||| (if (f 280 (444 + 61 * k11 + 3)).toInt < ((f 280 37) + (f 280 60)).toInt then (8 : Int32) else (0 : Int32))) ||| (if ((f 280 51) - (f 280 60)).toInt < (r_spreadOf_v f).toInt then (128 : Int32) else (0 : Int32)))), some (.inl (f 280 60)), some (.inl ((Int32.ofNat k11) + (1 : Int32)))]) (st' := []) (m' := (f, l)) rfl rfl (fl_bo rfl) rfl ?_
    refine fl_Tq.stp (pc' := 11) (lv' := [some (.inr (.inr (.inl (76, 277)))), some (.inl ((((((y_warnings_a11 f k11) ||| (if ((f 280 34) - (f 280 60)).toInt < (r_voltsOf_v f (Int32.ofNat k11) k11).toInt then (1 : Int32) else (0 : Int32))) ||| (if (r_voltsOf_v f (Int32.ofNat k11) k11).toInt < ((f 280 35) + (f 280 60)).toInt then (2 : Int32) else (0 : Int32))) ||| (if ((f 280 36) - (f 280 60)).toInt < (f 280 (444 + 61 * k11 + 3)).toInt then (4 : Int32) else (0 : Int32))) ||| (if (f 280 (444 + 61 * k11 + 3)).toInt < ((f 280 37) + (f 280 60)).toInt then (8 : Int32) else (0 : Int32))) ||| (if ((f 280 51) - (f 280 60)).toInt < (r_spreadOf_v f).toInt then (128 : Int32) else (0 : Int32)))), some (.inl (f 280 60)), some (.inl ((Int32.ofNat k11) + (1 : Int32)))]) (st' := []) (m' := (f, l)) rfl rfl (fl_bo rfl) rfl ?_
    have ea : y_warnings_a11 f (k11 + 1) = (((((y_warnings_a11 f k11) ||| (if ((f 280 34) - (f 280 60)).toInt < (r_voltsOf_v f (Int32.ofNat k11) k11).toInt then (1 : Int32) else (0 : Int32))) ||| (if (r_voltsOf_v f (Int32.ofNat k11) k11).toInt < ((f 280 35) + (f 280 60)).toInt then (2 : Int32) else (0 : Int32))) ||| (if ((f 280 36) - (f 280 60)).toInt < (f 280 (444 + 61 * k11 + 3)).toInt then (4 : Int32) else (0 : Int32))) ||| (if (f 280 (444 + 61 * k11 + 3)).toInt < ((f 280 37) + (f 280 60)).toInt then (8 : Int32) else (0 : Int32))) ||| (if ((f 280 51) - (f 280 60)).toInt < (r_spreadOf_v f).toInt then (128 : Int32) else (0 : Int32)) := by
      show ((((((y_warnings_a11 f k11) ||| (if ((f 280 34) - (f 280 60)).toInt < (r_voltsOf_v f (Int32.ofNat k11) k11).toInt then (1 : Int32) else (0 : Int32))) ||| (if (r_voltsOf_v f (Int32.ofNat k11) k11).toInt < ((f 280 35) + (f 280 60)).toInt then (2 : Int32) else (0 : Int32))) ||| (if ((f 280 36) - (f 280 60)).toInt < (f 280 (444 + 61 * k11 + 3)).toInt then (4 : Int32) else (0 : Int32))) ||| (if (f 280 (444 + 61 * k11 + 3)).toInt < ((f 280 37) + (f 280 60)).toInt then (8 : Int32) else (0 : Int32))) ||| (if ((f 280 51) - (f 280 60)).toInt < (r_spreadOf_v f).toInt then (128 : Int32) else (0 : Int32))) = _
      rfl
    rw [ea, ← t2_k1] at hS
    exact hS
  refine t2_for (S := fun k11 => fl_Tq (pw_P L xs) 278 11 [some (.inr (.inr (.inl (76, 277)))), some (.inl (y_warnings_a11 f k11)), some (.inl (f 280 60)), some (.inl (Int32.ofNat k11))] [] (f, l) Q) hs11 ?_
  show fl_Tq (pw_P L xs) 278 11 [some (.inr (.inr (.inl (76, 277)))), some (.inl (y_warnings_a11 f ((f 280 2).toInt.toNat))), some (.inl (f 280 60)), some (.inl (Int32.ofNat ((f 280 2).toInt.toNat)))] [] (f, l) _
  refine fl_Tq.stp (pc' := 12) (lv' := [some (.inr (.inr (.inl (76, 277)))), some (.inl (y_warnings_a11 f ((f 280 2).toInt.toNat))), some (.inl (f 280 60)), some (.inl (Int32.ofNat ((f 280 2).toInt.toNat)))]) (st' := [.inl (Int32.ofNat ((f 280 2).toInt.toNat))]) (m' := (f, l)) rfl rfl (fl_bo rfl) rfl ?_
  refine fl_Tq.stp (pc' := 13) (lv' := [some (.inr (.inr (.inl (76, 277)))), some (.inl (y_warnings_a11 f ((f 280 2).toInt.toNat))), some (.inl (f 280 60)), some (.inl (Int32.ofNat ((f 280 2).toInt.toNat)))]) (st' := [.inr (.inr (.inl (76, 277))), .inl (Int32.ofNat ((f 280 2).toInt.toNat))]) (m' := (f, l)) rfl rfl (fl_bo rfl) rfl ?_
  refine fl_Tq.stp (pc' := 16) (lv' := [some (.inr (.inr (.inl (76, 277)))), some (.inl (y_warnings_a11 f ((f 280 2).toInt.toNat))), some (.inl (f 280 60)), some (.inl (Int32.ofNat ((f 280 2).toInt.toNat)))]) (st' := [.inr (.inr (.inl (79, 280))), .inl (Int32.ofNat ((f 280 2).toInt.toNat))]) (m' := (f, l)) rfl rfl (fl_bo rfl) rfl ?_
  refine fl_Tq.cI (c := (2 : Int32)) rfl (by decide +kernel) (fl_bo rfl) ?_
  refine fl_Tq.ldV (p := 280) (τ := 79) (n := 29780) (z := (0, 0, 0)) (k := 2) (v := f 280 2) rfl (fl_bo rfl) rfl (by decide +kernel) (by decide) rfl ?_
  refine fl_Tq.jt rfl (fl_bo rfl) (c2_ge_t (t2_ln (t2_nn hn.1))) rfl ?_
  refine fl_Tq.stp (pc' := 148) (lv' := [some (.inr (.inr (.inl (76, 277)))), some (.inl (y_warnings_a11 f ((f 280 2).toInt.toNat))), some (.inl (f 280 60)), some (.inl (Int32.ofNat ((f 280 2).toInt.toNat)))]) (st' := [.inl (y_warnings_a11 f ((f 280 2).toInt.toNat))]) (m' := (f, l)) rfl rfl (fl_bo rfl) rfl ?_
  exact fl_Tq.ret rfl rfl rfl k
theorem t2_ora (x y z : Int32) : (x ||| y) ||| z = x ||| (y ||| z) := Int32.toBitVec_inj.mp (by show (x.toBitVec ||| y.toBitVec) ||| z.toBitVec = x.toBitVec ||| (y.toBitVec ||| z.toBitVec); exact BitVec.or_assoc _ _ _)
theorem t2_orc (x y : Int32) : x ||| y = y ||| x := Int32.toBitVec_inj.mp (by show x.toBitVec ||| y.toBitVec = y.toBitVec ||| x.toBitVec; exact BitVec.or_comm _ _)
theorem t2_ori (x : Int32) : x ||| x = x := Int32.toBitVec_inj.mp (by show x.toBitVec ||| x.toBitVec = x.toBitVec; simp)
theorem t2_or0 (x : Int32) : x ||| (0 : Int32) = x := Int32.toBitVec_inj.mp (by show x.toBitVec ||| 0#32 = x.toBitVec; simp)
theorem x_warn_e {f : t2_F} (I : c0_I f f) : x_warnings_v f = y_warnings_v f := by
  have cur : f 1 9 = f 280 5 := I.1.2.1.1
  have s := I.2.1
  have n16 := I.rhu.1
  have c0 : (0 : Int32).toInt = 0 := rfl
  have c1 : ¬ ((1 : Int32).toInt = 0) := by decide +kernel
  have st : ∀ k : Nat, k < (f 280 2).toInt.toNat → ∀ z : Int32, ((((z ||| (if ((f 280 34) - (f 280 60)).toInt < (r_voltsOf_v f (Int32.ofNat k) k).toInt then (1 : Int32) else (0 : Int32))) ||| (if (r_voltsOf_v f (Int32.ofNat k) k).toInt < ((f 280 35) + (f 280 60)).toInt then (2 : Int32) else (0 : Int32))) ||| (if ((f 280 36) - (f 280 60)).toInt < (f 280 (444 + 61 * k + 3)).toInt then (4 : Int32) else (0 : Int32))) ||| (if (f 280 (444 + 61 * k + 3)).toInt < ((f 280 37) + (f 280 60)).toInt then (8 : Int32) else (0 : Int32))) = z ||| c0_warningBits_v f k (f 1 9) (f 4 26) := fun k hk z => by
    have rc := (I.cell hk).1.1
    have ev : c0_voltsAt_v f k (f 1 9) = r_voltsOf_v f (Int32.ofNat k) k := by
      rw [cur]
      exact c0_volts_eq rc (I.far hk)
    have e6 : f (18 + 4 * k) 6 = f 280 (444 + 61 * k + 3) := rc.2.2.1.2.1
    unfold c0_warningBits_v c0_warningBits_j17_0 c0_warningBits_j39_0 c0_warningBits_j64_0 c0_warningBits_j89_0
    rw [ev, e6, show f 4 26 = f 280 60 from s 26 (by decide), show f 4 0 = f 280 34 from s 0 (by decide), show f 4 1 = f 280 35 from s 1 (by decide), show f 4 2 = f 280 36 from s 2 (by decide), show f 4 3 = f 280 37 from s 3 (by decide)]
    simp only [t2_ora]
  generalize hS : (if ((f 280 51) - (f 280 60)).toInt < (r_spreadOf_v f).toInt then (128 : Int32) else (0 : Int32)) = S
  have a1 : ∀ k : Nat, k + 1 ≤ (f 280 2).toInt.toNat → y_warnings_a11 f (k + 1) = x_warnings_a18 f (k + 1) ||| S := by
    intro k
    have sy : ∀ j : Nat, j < (f 280 2).toInt.toNat → y_warnings_a11 f (j + 1) = (y_warnings_a11 f j ||| c0_warningBits_v f j (f 1 9) (f 4 26)) ||| S := fun j hj => by
      rw [← st j hj, ← hS]
      rfl
    have sx : ∀ j : Nat, x_warnings_a18 f (j + 1) = x_warnings_a18 f j ||| c0_warningBits_v f j (f 1 9) (f 4 26) := fun j => rfl
    induction k with
    | zero =>
      intro hk
      rw [sy 0 (by omega), sx 0]
      rfl
    | succ k ih =>
      intro hk
      rw [sy (k + 1) (by omega), sx (k + 1), ih (by omega), t2_ora (x_warnings_a18 f (k + 1)) S, t2_orc S, ← t2_ora (x_warnings_a18 f (k + 1)), t2_ora _ S S, t2_ori]
  have esp : c0_partSpread_v f = if (f 280 2).toInt.toNat = 0 then (-1 : Int32) else r_spreadOf_v f := by
    obtain ⟨n1, n2, n3⟩ := I.cnt
    exact c0_spread_eq n3 n1 (fun C hC => I.part hC (Int32.ofNat C))
  unfold x_warnings_v y_warnings_v
  rw [show f 1 5 = f 280 2 from I.1.1.1, show f 4 17 = f 280 51 from s 17 (by decide), show f 4 26 = f 280 60 from s 26 (by decide)]
  by_cases h : (f 280 2).toInt = 0
  · rw [if_neg (show ¬ (0 < (f 280 2).toInt) by omega), if_pos c0, show (f 280 2).toInt.toNat = 0 by omega]
    rfl
  · obtain ⟨k, hk⟩ : ∃ k : Nat, (f 280 2).toInt.toNat = k + 1 := ⟨(f 280 2).toInt.toNat - 1, by omega⟩
    rw [if_pos (show 0 < (f 280 2).toInt by omega), esp, if_neg (show ¬ ((f 280 2).toInt.toNat = 0) by omega), hk, a1 k (by omega), ← hS]
    by_cases h2 : ((f 280 51) - (f 280 60)).toInt < (r_spreadOf_v f).toInt
    · rw [if_pos h2, if_pos h2, if_neg c1]
    · rw [if_neg h2, if_neg h2, if_pos c0, t2_or0]
/-! ===== warnings, on both sides ===== -/
theorem t2_cmp_30 {L : Nat} {xs : Nat → Int32} {f : t2_F} {l : t2_L} (_hall : ∀ c ∈ at_CM ++ at_CA, at_Valid at_XI (pw_P L xs) c) (hg : t2_Z (f, l)) : fl_Tq (pw_P L xs) 131 0 (fl_args (am_mxl (pw_P L xs) 131) [lx_x]) [] (f, l) (t2_End L xs 278 [at_this]) := by
  have I : c0_I f f := hg.2.1
  refine t2_qq (y := y_warnings_v f) hg (fun Q k => x_warnings_q I.hc ?_) (fun Q k => y_warnings_q I.rhu.1 (t2_Good.RS hg.1) I.rhu.2 k)
  rw [x_warn_e I]
  exact k

end

/-! 95.05.10p31.lean.txt -/
section
theorem x_need_A {L : Nat} {xs : Nat → Int32} {f : t2_F} {l : t2_L} {Q : Option fl_V → fl_M → Prop} {a : Int32}  (k : ((c0_hasCell_v f a).toInt = 0) → Q (some (.inl (-1 : Int32))) (f, l)) (k1 : (¬ ((c0_hasCell_v f a).toInt = 0)) → (0 < (f 4 12).toInt) → fl_Tq (pw_P L xs) 132 31 [some (.inr (.inr (.inl (0, 0)))), some (.inl a), some (.inl (f 4 12)), none] [] (f, l) Q) (k2 : (¬ ((c0_hasCell_v f a).toInt = 0)) → (¬ (0 < (f 4 12).toInt)) → Q (some (.inl (-1 : Int32))) (f, l)) : fl_Tq (pw_P L xs) 132 0 [some (.inr (.inr (.inl (0, 0)))), some (.inl a), none, none] [] (f, l) Q := by
  refine fl_Tq.stp (pc' := 1) (lv' := [some (.inr (.inr (.inl (0, 0)))), some (.inl a), none, none]) (st' := [.inr (.inr (.inl (0, 0)))]) (m' := (f, l)) rfl rfl (fl_bo rfl) rfl ?_
  refine fl_Tq.stp (pc' := 4) (lv' := [some (.inr (.inr (.inl (0, 0)))), some (.inl a), none, none]) (st' := [.inr (.inr (.inl (1, 1)))]) (m' := (f, l)) rfl rfl (fl_bo rfl) rfl ?_
  refine fl_Tq.stp (pc' := 7) (lv' := [some (.inr (.inr (.inl (0, 0)))), some (.inl a), none, none]) (st' := [.inr (.inr (.inl (3, 3)))]) (m' := (f, l)) rfl rfl (fl_bo rfl) rfl ?_
  refine fl_Tq.stp (pc' := 10) (lv' := [some (.inr (.inr (.inl (0, 0)))), some (.inl a), none, none]) (st' := [.inr (.inr (.inl (4, 4)))]) (m' := (f, l)) rfl rfl (fl_bo rfl) rfl ?_
  refine fl_Tq.cB (c := (12 : Int32)) rfl (by decide +kernel) (fl_bo rfl) ?_
  refine fl_Tq.ldV (p := 4) (τ := 4) (n := 30) (z := (0, 0, 0)) (k := 12) (v := f 4 12) rfl (fl_bo rfl) rfl (by decide +kernel) (by decide) rfl ?_
  refine fl_Tq.stp (pc' := 14) (lv' := [some (.inr (.inr (.inl (0, 0)))), some (.inl a), some (.inl (f 4 12)), none]) (st' := []) (m' := (f, l)) rfl rfl (fl_bo rfl) rfl ?_
  refine fl_Tq.stp (pc' := 15) (lv' := [some (.inr (.inr (.inl (0, 0)))), some (.inl a), some (.inl (f 4 12)), none]) (st' := [.inr (.inr (.inl (0, 0)))]) (m' := (f, l)) rfl rfl (fl_bo rfl) rfl ?_
  refine fl_Tq.stp (pc' := 18) (lv' := [some (.inr (.inr (.inl (0, 0)))), some (.inl a), some (.inl (f 4 12)), none]) (st' := [.inr (.inr (.inl (1, 1)))]) (m' := (f, l)) rfl rfl (fl_bo rfl) rfl ?_
  refine fl_Tq.stp (pc' := 19) (lv' := [some (.inr (.inr (.inl (0, 0)))), some (.inl a), some (.inl (f 4 12)), none]) (st' := [.inl a, .inr (.inr (.inl (1, 1)))]) (m' := (f, l)) rfl rfl (fl_bo rfl) rfl ?_
  refine fl_Tq.cal rfl rfl (fl_bo rfl) rfl ?_
  refine c0_hasCell_q  ?_
  show fl_Tq _ 132 22 [some (.inr (.inr (.inl (0, 0)))), some (.inl a), some (.inl (f 4 12)), none] [.inl (c0_hasCell_v f a)] (f, l) _
  by_cases h1 : (c0_hasCell_v f a).toInt = 0
  · refine fl_Tq.zt rfl (fl_bo rfl) (c1_eq_t h1) rfl ?_
    refine fl_Tq.cI (c := (-1 : Int32)) rfl (by decide +kernel) (fl_bo rfl) ?_
    exact fl_Tq.ret rfl rfl rfl (k h1)
  · refine fl_Tq.zf rfl (fl_bo rfl) (c1_eq_f h1) rfl ?_
    refine fl_Tq.stp (pc' := 26) (lv' := [some (.inr (.inr (.inl (0, 0)))), some (.inl a), some (.inl (f 4 12)), none]) (st' := [.inl (f 4 12)]) (m' := (f, l)) rfl rfl (fl_bo rfl) rfl ?_
    by_cases h2 : 0 < (f 4 12).toInt
    · refine fl_Tq.zt rfl (fl_bo rfl) (c1_gt_t h2) rfl ?_
      exact k1 h1 h2
    · refine fl_Tq.zf rfl (fl_bo rfl) (c1_gt_f h2) rfl ?_
      refine fl_Tq.cI (c := (-1 : Int32)) rfl (by decide +kernel) (fl_bo rfl) ?_
      exact fl_Tq.ret rfl rfl rfl (k2 h1 h2)
theorem x_need_B {L : Nat} {xs : Nat → Int32} {f : t2_F} {l : t2_L} {Q : Option fl_V → fl_M → Prop} {a : Int32} {A : Nat} (hA : a.toInt = (A : Int)) (hA1 : A < 16) (hc : 0 ≤ (f 1 5).toInt ∧ (f 1 5).toInt ≤ 16) (k : (0 < ((f (18 + 4 * A) 2) - (t2_chargeBy_v (c0_leastPart_v f) (f (18 + 4 * A) 0))).toInt) → fl_Tq (pw_P L xs) 132 81 [some (.inr (.inr (.inl (0, 0)))), some (.inl a), some (.inl (f 4 12)), some (.inl ((f (18 + 4 * A) 2) - (t2_chargeBy_v (c0_leastPart_v f) (f (18 + 4 * A) 0))))] [.inl (f 4 12), .inl ((((f (18 + 4 * A) 2) - (t2_chargeBy_v (c0_leastPart_v f) (f (18 + 4 * A) 0))) + (f 4 12)) - (1 : Int32))] (f, l) Q) (k1 : (¬ (0 < ((f (18 + 4 * A) 2) - (t2_chargeBy_v (c0_leastPart_v f) (f (18 + 4 * A) 0))).toInt)) → Q (some (.inl (0 : Int32))) (f, l)) : fl_Tq (pw_P L xs) 132 31 [some (.inr (.inr (.inl (0, 0)))), some (.inl a), some (.inl (f 4 12)), none] [] (f, l) Q := by
  refine fl_Tq.stp (pc' := 32) (lv' := [some (.inr (.inr (.inl (0, 0)))), some (.inl a), some (.inl (f 4 12)), none]) (st' := [.inr (.inr (.inl (0, 0)))]) (m' := (f, l)) rfl rfl (fl_bo rfl) rfl ?_
  refine fl_Tq.stp (pc' := 35) (lv' := [some (.inr (.inr (.inl (0, 0)))), some (.inl a), some (.inl (f 4 12)), none]) (st' := [.inr (.inr (.inl (1, 1)))]) (m' := (f, l)) rfl rfl (fl_bo rfl) rfl ?_
  refine fl_Tq.stp (pc' := 38) (lv' := [some (.inr (.inr (.inl (0, 0)))), some (.inl a), some (.inl (f 4 12)), none]) (st' := [.inr (.inr (.inl (2, 2)))]) (m' := (f, l)) rfl rfl (fl_bo rfl) rfl ?_
  refine fl_Tq.stp (pc' := 39) (lv' := [some (.inr (.inr (.inl (0, 0)))), some (.inl a), some (.inl (f 4 12)), none]) (st' := [.inl a, .inr (.inr (.inl (2, 2)))]) (m' := (f, l)) rfl rfl (fl_bo rfl) rfl ?_
  refine fl_Tq.qld (p := 2) (τ := 2) (n := 16) (t := 18) (b := 16) (d := 3) (k := A) rfl (fl_bo rfl) rfl hA hA1 ?_
  show fl_Tq _ 132 40 [some (.inr (.inr (.inl (0, 0)))), some (.inl a), some (.inl (f 4 12)), none] [.inr (.inr (.inl (18, 18 + 4 * A)))] (f, l) _
  refine fl_Tq.gfV (k := 2) (v := f (18 + 4 * A) 2) rfl (fl_oks_ok ⟨(t2_kc0 hA1), True.intro⟩) rfl rfl ?_
  refine fl_Tq.stp (pc' := 44) (lv' := [some (.inr (.inr (.inl (0, 0)))), some (.inl a), some (.inl (f 4 12)), none]) (st' := [.inr (.inr (.inl (0, 0))), .inl (f (18 + 4 * A) 2)]) (m' := (f, l)) rfl rfl (fl_bo rfl) rfl ?_
  refine fl_Tq.stp (pc' := 47) (lv' := [some (.inr (.inr (.inl (0, 0)))), some (.inl a), some (.inl (f 4 12)), none]) (st' := [.inr (.inr (.inl (1, 1))), .inl (f (18 + 4 * A) 2)]) (m' := (f, l)) rfl rfl (fl_bo rfl) rfl ?_
  refine fl_Tq.cal rfl rfl (fl_bo rfl) rfl ?_
  refine c0_leastPart_q hc ?_
  show fl_Tq _ 132 50 [some (.inr (.inr (.inl (0, 0)))), some (.inl a), some (.inl (f 4 12)), none] [.inl (c0_leastPart_v f), .inl (f (18 + 4 * A) 2)] (f, l) _
  refine fl_Tq.stp (pc' := 51) (lv' := [some (.inr (.inr (.inl (0, 0)))), some (.inl a), some (.inl (f 4 12)), none]) (st' := [.inr (.inr (.inl (0, 0))), .inl (c0_leastPart_v f), .inl (f (18 + 4 * A) 2)]) (m' := (f, l)) rfl rfl (fl_bo rfl) rfl ?_
  refine fl_Tq.stp (pc' := 54) (lv' := [some (.inr (.inr (.inl (0, 0)))), some (.inl a), some (.inl (f 4 12)), none]) (st' := [.inr (.inr (.inl (1, 1))), .inl (c0_leastPart_v f), .inl (f (18 + 4 * A) 2)]) (m' := (f, l)) rfl rfl (fl_bo rfl) rfl ?_
  refine fl_Tq.stp (pc' := 57) (lv' := [some (.inr (.inr (.inl (0, 0)))), some (.inl a), some (.inl (f 4 12)), none]) (st' := [.inr (.inr (.inl (2, 2))), .inl (c0_leastPart_v f), .inl (f (18 + 4 * A) 2)]) (m' := (f, l)) rfl rfl (fl_bo rfl) rfl ?_
  refine fl_Tq.stp (pc' := 58) (lv' := [some (.inr (.inr (.inl (0, 0)))), some (.inl a), some (.inl (f 4 12)), none]) (st' := [.inl a, .inr (.inr (.inl (2, 2))), .inl (c0_leastPart_v f), .inl (f (18 + 4 * A) 2)]) (m' := (f, l)) rfl rfl (fl_bo rfl) rfl ?_
  refine fl_Tq.qld (p := 2) (τ := 2) (n := 16) (t := 18) (b := 16) (d := 3) (k := A) rfl (fl_bo rfl) rfl hA hA1 ?_
  show fl_Tq _ 132 59 [some (.inr (.inr (.inl (0, 0)))), some (.inl a), some (.inl (f 4 12)), none] [.inr (.inr (.inl (18, 18 + 4 * A))), .inl (c0_leastPart_v f), .inl (f (18 + 4 * A) 2)] (f, l) _
  refine fl_Tq.gfV (k := 0) (v := f (18 + 4 * A) 0) rfl (fl_oks_ok ⟨(t2_kc0 hA1), True.intro, True.intro, True.intro⟩) rfl rfl ?_
  refine fl_Tq.cal rfl rfl (fl_bo rfl) rfl ?_
  refine t2_chargeBy_q  ?_
  show fl_Tq _ 132 65 [some (.inr (.inr (.inl (0, 0)))), some (.inl a), some (.inl (f 4 12)), none] [.inl (t2_chargeBy_v (c0_leastPart_v f) (f (18 + 4 * A) 0)), .inl (f (18 + 4 * A) 2)] (f, l) _
  refine fl_Tq.stp (pc' := 66) (lv' := [some (.inr (.inr (.inl (0, 0)))), some (.inl a), some (.inl (f 4 12)), none]) (st' := [.inl ((f (18 + 4 * A) 2) - (t2_chargeBy_v (c0_leastPart_v f) (f (18 + 4 * A) 0)))]) (m' := (f, l)) rfl rfl (fl_bo rfl) rfl ?_
  refine fl_Tq.stp (pc' := 67) (lv' := [some (.inr (.inr (.inl (0, 0)))), some (.inl a), some (.inl (f 4 12)), some (.inl ((f (18 + 4 * A) 2) - (t2_chargeBy_v (c0_leastPart_v f) (f (18 + 4 * A) 0))))]) (st' := []) (m' := (f, l)) rfl rfl (fl_bo rfl) rfl ?_
  refine fl_Tq.stp (pc' := 68) (lv' := [some (.inr (.inr (.inl (0, 0)))), some (.inl a), some (.inl (f 4 12)), some (.inl ((f (18 + 4 * A) 2) - (t2_chargeBy_v (c0_leastPart_v f) (f (18 + 4 * A) 0))))]) (st' := [.inl ((f (18 + 4 * A) 2) - (t2_chargeBy_v (c0_leastPart_v f) (f (18 + 4 * A) 0)))]) (m' := (f, l)) rfl rfl (fl_bo rfl) rfl ?_
  by_cases h1 : 0 < ((f (18 + 4 * A) 2) - (t2_chargeBy_v (c0_leastPart_v f) (f (18 + 4 * A) 0))).toInt
  · refine fl_Tq.zt rfl (fl_bo rfl) (c1_gt_t h1) rfl ?_
    refine fl_Tq.stp (pc' := 76) (lv' := [some (.inr (.inr (.inl (0, 0)))), some (.inl a), some (.inl (f 4 12)), some (.inl ((f (18 + 4 * A) 2) - (t2_chargeBy_v (c0_leastPart_v f) (f (18 + 4 * A) 0))))]) (st' := [.inl ((f (18 + 4 * A) 2) - (t2_chargeBy_v (c0_leastPart_v f) (f (18 + 4 * A) 0)))]) (m' := (f, l)) rfl rfl (fl_bo rfl) rfl ?_
    refine fl_Tq.stp (pc' := 77) (lv' := [some (.inr (.inr (.inl (0, 0)))), some (.inl a), some (.inl (f 4 12)), some (.inl ((f (18 + 4 * A) 2) - (t2_chargeBy_v (c0_leastPart_v f) (f (18 + 4 * A) 0))))]) (st' := [.inl (f 4 12), .inl ((f (18 + 4 * A) 2) - (t2_chargeBy_v (c0_leastPart_v f) (f (18 + 4 * A) 0)))]) (m' := (f, l)) rfl rfl (fl_bo rfl) rfl ?_
    refine fl_Tq.stp (pc' := 78) (lv' := [some (.inr (.inr (.inl (0, 0)))), some (.inl a), some (.inl (f 4 12)), some (.inl ((f (18 + 4 * A) 2) - (t2_chargeBy_v (c0_leastPart_v f) (f (18 + 4 * A) 0))))]) (st' := [.inl (((f (18 + 4 * A) 2) - (t2_chargeBy_v (c0_leastPart_v f) (f (18 + 4 * A) 0))) + (f 4 12))]) (m' := (f, l)) rfl rfl (fl_bo rfl) rfl ?_
    refine fl_Tq.cI (c := (1 : Int32)) rfl (by decide +kernel) (fl_bo rfl) ?_
    refine fl_Tq.stp (pc' := 80) (lv' := [some (.inr (.inr (.inl (0, 0)))), some (.inl a), some (.inl (f 4 12)), some (.inl ((f (18 + 4 * A) 2) - (t2_chargeBy_v (c0_leastPart_v f) (f (18 + 4 * A) 0))))]) (st' := [.inl ((((f (18 + 4 * A) 2) - (t2_chargeBy_v (c0_leastPart_v f) (f (18 + 4 * A) 0))) + (f 4 12)) - (1 : Int32))]) (m' := (f, l)) rfl rfl (fl_bo rfl) rfl ?_
    refine fl_Tq.stp (pc' := 81) (lv' := [some (.inr (.inr (.inl (0, 0)))), some (.inl a), some (.inl (f 4 12)), some (.inl ((f (18 + 4 * A) 2) - (t2_chargeBy_v (c0_leastPart_v f) (f (18 + 4 * A) 0))))]) (st' := [.inl (f 4 12), .inl ((((f (18 + 4 * A) 2) - (t2_chargeBy_v (c0_leastPart_v f) (f (18 + 4 * A) 0))) + (f 4 12)) - (1 : Int32))]) (m' := (f, l)) rfl rfl (fl_bo rfl) rfl ?_
    exact k h1
  · refine fl_Tq.zf rfl (fl_bo rfl) (c1_gt_f h1) rfl ?_
    refine fl_Tq.cI (c := (0 : Int32)) rfl (by decide +kernel) (fl_bo rfl) ?_
    refine fl_Tq.stp (pc' := 82) (lv' := [some (.inr (.inr (.inl (0, 0)))), some (.inl a), some (.inl (f 4 12)), some (.inl ((f (18 + 4 * A) 2) - (t2_chargeBy_v (c0_leastPart_v f) (f (18 + 4 * A) 0))))]) (st' := [.inl (0 : Int32)]) (m' := (f, l)) rfl rfl (fl_bo rfl) rfl ?_
    exact fl_Tq.ret rfl rfl rfl (k1 h1)
theorem y_need_A {L : Nat} {xs : Nat → Int32} {f : t2_F} {l : t2_L} {Q : Option fl_V → fl_M → Prop} {a : Int32}  (k : ((r_isCell_v f a).toInt = 0) → Q (some (.inl (-1 : Int32))) (f, l)) (k1 : (¬ ((r_isCell_v f a).toInt = 0)) → ((f 280 46).toInt = 0) → Q (some (.inl (-1 : Int32))) (f, l)) (k2 : (¬ ((r_isCell_v f a).toInt = 0)) → (¬ ((f 280 46).toInt = 0)) → fl_Tq (pw_P L xs) 279 19 [some (.inr (.inr (.inl (76, 277)))), some (.inl a), none] [] (f, l) Q) : fl_Tq (pw_P L xs) 279 0 [some (.inr (.inr (.inl (76, 277)))), some (.inl a), none] [] (f, l) Q := by
  refine fl_Tq.stp (pc' := 1) (lv' := [some (.inr (.inr (.inl (76, 277)))), some (.inl a), none]) (st' := [.inr (.inr (.inl (76, 277)))]) (m' := (f, l)) rfl rfl (fl_bo rfl) rfl ?_
  refine fl_Tq.stp (pc' := 2) (lv' := [some (.inr (.inr (.inl (76, 277)))), some (.inl a), none]) (st' := [.inl a, .inr (.inr (.inl (76, 277)))]) (m' := (f, l)) rfl rfl (fl_bo rfl) rfl ?_
  refine fl_Tq.cal rfl rfl (fl_bo rfl) rfl ?_
  refine r_isCell_q  ?_
  show fl_Tq _ 279 5 [some (.inr (.inr (.inl (76, 277)))), some (.inl a), none] [.inl (r_isCell_v f a)] (f, l) _
  by_cases h1 : (r_isCell_v f a).toInt = 0
  · refine fl_Tq.zt rfl (fl_bo rfl) (c1_eq_t h1) rfl ?_
    refine fl_Tq.cI (c := (-1 : Int32)) rfl (by decide +kernel) (fl_bo rfl) ?_
    exact fl_Tq.ret rfl rfl rfl (k h1)
  · refine fl_Tq.zf rfl (fl_bo rfl) (c1_eq_f h1) rfl ?_
    refine fl_Tq.stp (pc' := 9) (lv' := [some (.inr (.inr (.inl (76, 277)))), some (.inl a), none]) (st' := [.inr (.inr (.inl (76, 277)))]) (m' := (f, l)) rfl rfl (fl_bo rfl) rfl ?_
    refine fl_Tq.cB (c := (12 : Int32)) rfl (by decide +kernel) (fl_bo rfl) ?_
    refine fl_Tq.cal rfl rfl (fl_bo rfl) rfl ?_
    refine t2_its (W := 12) (v := f 280 46) (by decide +kernel) (by decide) rfl ?_
    show fl_Tq _ 279 14 [some (.inr (.inr (.inl (76, 277)))), some (.inl a), none] [.inl (f 280 46)] (f, l) _
    by_cases h2 : (f 280 46).toInt = 0
    · refine fl_Tq.zf rfl (fl_bo rfl) (c1_ne_f h2) rfl ?_
      refine fl_Tq.cI (c := (-1 : Int32)) rfl (by decide +kernel) (fl_bo rfl) ?_
      exact fl_Tq.ret rfl rfl rfl (k1 h1 h2)
    · refine fl_Tq.zt rfl (fl_bo rfl) (c1_ne_t h2) rfl ?_
      exact k2 h1 h2
theorem y_need_B {L : Nat} {xs : Nat → Int32} {f : t2_F} {l : t2_L} {Q : Option fl_V → fl_M → Prop} {a : Int32} {A : Nat} (hA : a.toInt = (A : Int)) (hA1 : A < 16) (hn : 0 ≤ (f 280 2).toInt ∧ (f 280 2).toInt ≤ 16) (hk : ∀ C : Nat, (C : Int) < (f 280 2).toInt → t2_ck f C) (k : (0 < ((f 280 (444 + 61 * A + 1)) - (r_chargeAt_v f a A (r_leastPart_v f))).toInt) → fl_Tq (pw_P L xs) 279 60 [some (.inr (.inr (.inl (76, 277)))), some (.inl a), some (.inl ((f 280 (444 + 61 * A + 1)) - (r_chargeAt_v f a A (r_leastPart_v f))))] [.inl (f 280 46), .inl ((((f 280 (444 + 61 * A + 1)) - (r_chargeAt_v f a A (r_leastPart_v f))) + (f 280 46)) - (1 : Int32))] (f, l) Q) (k1 : (¬ (0 < ((f 280 (444 + 61 * A + 1)) - (r_chargeAt_v f a A (r_leastPart_v f))).toInt)) → Q (some (.inl (0 : Int32))) (f, l)) : fl_Tq (pw_P L xs) 279 19 [some (.inr (.inr (.inl (76, 277)))), some (.inl a), none] [] (f, l) Q := by
  refine fl_Tq.stp (pc' := 20) (lv' := [some (.inr (.inr (.inl (76, 277)))), some (.inl a), none]) (st' := [.inr (.inr (.inl (76, 277)))]) (m' := (f, l)) rfl rfl (fl_bo rfl) rfl ?_
  refine fl_Tq.stp (pc' := 21) (lv' := [some (.inr (.inr (.inl (76, 277)))), some (.inl a), none]) (st' := [.inl a, .inr (.inr (.inl (76, 277)))]) (m' := (f, l)) rfl rfl (fl_bo rfl) rfl ?_
  refine fl_Tq.cI (c := (1 : Int32)) rfl (by decide +kernel) (fl_bo rfl) ?_
  refine fl_Tq.cal rfl rfl (fl_bo rfl) rfl ?_
  refine t2_get (C := A) (W := 1) (v := f 280 (444 + 61 * A + 1)) hA (by decide +kernel) hA1 (by decide) rfl ?_
  show fl_Tq _ 279 25 [some (.inr (.inr (.inl (76, 277)))), some (.inl a), none] [.inl (f 280 (444 + 61 * A + 1))] (f, l) _
  refine fl_Tq.stp (pc' := 26) (lv' := [some (.inr (.inr (.inl (76, 277)))), some (.inl a), none]) (st' := [.inr (.inr (.inl (76, 277))), .inl (f 280 (444 + 61 * A + 1))]) (m' := (f, l)) rfl rfl (fl_bo rfl) rfl ?_
  refine fl_Tq.stp (pc' := 27) (lv' := [some (.inr (.inr (.inl (76, 277)))), some (.inl a), none]) (st' := [.inl a, .inr (.inr (.inl (76, 277))), .inl (f 280 (444 + 61 * A + 1))]) (m' := (f, l)) rfl rfl (fl_bo rfl) rfl ?_
  refine fl_Tq.stp (pc' := 28) (lv' := [some (.inr (.inr (.inl (76, 277)))), some (.inl a), none]) (st' := [.inr (.inr (.inl (76, 277))), .inl a, .inr (.inr (.inl (76, 277))), .inl (f 280 (444 + 61 * A + 1))]) (m' := (f, l)) rfl rfl (fl_bo rfl) rfl ?_
  refine fl_Tq.cal rfl rfl (fl_bo rfl) rfl ?_
  refine r_leastPart_q hn hk ?_
  show fl_Tq _ 279 31 [some (.inr (.inr (.inl (76, 277)))), some (.inl a), none] [.inl (r_leastPart_v f), .inl a, .inr (.inr (.inl (76, 277))), .inl (f 280 (444 + 61 * A + 1))] (f, l) _
  refine fl_Tq.cal rfl rfl (fl_bo rfl) rfl ?_
  refine r_chargeAt_q hA hA1 ?_
  show fl_Tq _ 279 34 [some (.inr (.inr (.inl (76, 277)))), some (.inl a), none] [.inl (r_chargeAt_v f a A (r_leastPart_v f)), .inl (f 280 (444 + 61 * A + 1))] (f, l) _
  refine fl_Tq.stp (pc' := 35) (lv' := [some (.inr (.inr (.inl (76, 277)))), some (.inl a), none]) (st' := [.inl ((f 280 (444 + 61 * A + 1)) - (r_chargeAt_v f a A (r_leastPart_v f)))]) (m' := (f, l)) rfl rfl (fl_bo rfl) rfl ?_
  refine fl_Tq.stp (pc' := 36) (lv' := [some (.inr (.inr (.inl (76, 277)))), some (.inl a), some (.inl ((f 280 (444 + 61 * A + 1)) - (r_chargeAt_v f a A (r_leastPart_v f))))]) (st' := []) (m' := (f, l)) rfl rfl (fl_bo rfl) rfl ?_
  refine fl_Tq.stp (pc' := 37) (lv' := [some (.inr (.inr (.inl (76, 277)))), some (.inl a), some (.inl ((f 280 (444 + 61 * A + 1)) - (r_chargeAt_v f a A (r_leastPart_v f))))]) (st' := [.inl ((f 280 (444 + 61 * A + 1)) - (r_chargeAt_v f a A (r_leastPart_v f)))]) (m' := (f, l)) rfl rfl (fl_bo rfl) rfl ?_
  by_cases h1 : 0 < ((f 280 (444 + 61 * A + 1)) - (r_chargeAt_v f a A (r_leastPart_v f))).toInt
  · refine fl_Tq.zt rfl (fl_bo rfl) (c1_gt_t h1) rfl ?_
    refine fl_Tq.stp (pc' := 45) (lv' := [some (.inr (.inr (.inl (76, 277)))), some (.inl a), some (.inl ((f 280 (444 + 61 * A + 1)) - (r_chargeAt_v f a A (r_leastPart_v f))))]) (st' := [.inl ((f 280 (444 + 61 * A + 1)) - (r_chargeAt_v f a A (r_leastPart_v f)))]) (m' := (f, l)) rfl rfl (fl_bo rfl) rfl ?_
    refine fl_Tq.stp (pc' := 46) (lv' := [some (.inr (.inr (.inl (76, 277)))), some (.inl a), some (.inl ((f 280 (444 + 61 * A + 1)) - (r_chargeAt_v f a A (r_leastPart_v f))))]) (st' := [.inr (.inr (.inl (76, 277))), .inl ((f 280 (444 + 61 * A + 1)) - (r_chargeAt_v f a A (r_leastPart_v f)))]) (m' := (f, l)) rfl rfl (fl_bo rfl) rfl ?_
    refine fl_Tq.cB (c := (12 : Int32)) rfl (by decide +kernel) (fl_bo rfl) ?_
    refine fl_Tq.cal rfl rfl (fl_bo rfl) rfl ?_
    refine t2_its (W := 12) (v := f 280 46) (by decide +kernel) (by decide) rfl ?_
    show fl_Tq _ 279 51 [some (.inr (.inr (.inl (76, 277)))), some (.inl a), some (.inl ((f 280 (444 + 61 * A + 1)) - (r_chargeAt_v f a A (r_leastPart_v f))))] [.inl (f 280 46), .inl ((f 280 (444 + 61 * A + 1)) - (r_chargeAt_v f a A (r_leastPart_v f)))] (f, l) _
    refine fl_Tq.stp (pc' := 52) (lv' := [some (.inr (.inr (.inl (76, 277)))), some (.inl a), some (.inl ((f 280 (444 + 61 * A + 1)) - (r_chargeAt_v f a A (r_leastPart_v f))))]) (st' := [.inl (((f 280 (444 + 61 * A + 1)) - (r_chargeAt_v f a A (r_leastPart_v f))) + (f 280 46))]) (m' := (f, l)) rfl rfl (fl_bo rfl) rfl ?_
    refine fl_Tq.cI (c := (1 : Int32)) rfl (by decide +kernel) (fl_bo rfl) ?_
    refine fl_Tq.stp (pc' := 54) (lv' := [some (.inr (.inr (.inl (76, 277)))), some (.inl a), some (.inl ((f 280 (444 + 61 * A + 1)) - (r_chargeAt_v f a A (r_leastPart_v f))))]) (st' := [.inl ((((f 280 (444 + 61 * A + 1)) - (r_chargeAt_v f a A (r_leastPart_v f))) + (f 280 46)) - (1 : Int32))]) (m' := (f, l)) rfl rfl (fl_bo rfl) rfl ?_
    refine fl_Tq.stp (pc' := 55) (lv' := [some (.inr (.inr (.inl (76, 277)))), some (.inl a), some (.inl ((f 280 (444 + 61 * A + 1)) - (r_chargeAt_v f a A (r_leastPart_v f))))]) (st' := [.inr (.inr (.inl (76, 277))), .inl ((((f 280 (444 + 61 * A + 1)) - (r_chargeAt_v f a A (r_leastPart_v f))) + (f 280 46)) - (1 : Int32))]) (m' := (f, l)) rfl rfl (fl_bo rfl) rfl ?_
    refine fl_Tq.cB (c := (12 : Int32)) rfl (by decide +kernel) (fl_bo rfl) ?_
    refine fl_Tq.cal rfl rfl (fl_bo rfl) rfl ?_
    refine t2_its (W := 12) (v := f 280 46) (by decide +kernel) (by decide) rfl ?_
    show fl_Tq _ 279 60 [some (.inr (.inr (.inl (76, 277)))), some (.inl a), some (.inl ((f 280 (444 + 61 * A + 1)) - (r_chargeAt_v f a A (r_leastPart_v f))))] [.inl (f 280 46), .inl ((((f 280 (444 + 61 * A + 1)) - (r_chargeAt_v f a A (r_leastPart_v f))) + (f 280 46)) - (1 : Int32))] (f, l) _
    exact k h1
  · refine fl_Tq.zf rfl (fl_bo rfl) (c1_gt_f h1) rfl ?_
    refine fl_Tq.cI (c := (0 : Int32)) rfl (by decide +kernel) (fl_bo rfl) ?_
    refine fl_Tq.stp (pc' := 61) (lv' := [some (.inr (.inr (.inl (76, 277)))), some (.inl a), some (.inl ((f 280 (444 + 61 * A + 1)) - (r_chargeAt_v f a A (r_leastPart_v f))))]) (st' := [.inl (0 : Int32)]) (m' := (f, l)) rfl rfl (fl_bo rfl) rfl ?_
    exact fl_Tq.ret rfl rfl rfl (k1 h1)
/-! ===== need, on both sides ===== -/
theorem t2_cmp_31 {L : Nat} {xs : Nat → Int32} {f : t2_F} {l : t2_L} {a : Int32} (_hall : ∀ c ∈ at_CM ++ at_CA, at_Valid at_XI (pw_P L xs) c) (hg : t2_Z (f, l)) : fl_Tq (pw_P L xs) 132 0 (fl_args (am_mxl (pw_P L xs) 132) [lx_x, .inl a]) [] (f, l) (t2_End L xs 279 [at_this, .inl a]) := by
  have I : c0_I f f := hg.2.1
  have e5 : f 1 5 = f 280 2 := I.1.1.1
  have z6 : f 3 6 = f 280 17 := I.2.2.1.1.2.1.1
  have hz : 0 ≤ (f 280 17).toInt ∧ (f 280 17).toInt ≤ 6 := I.2.2.2.2.2.2.2.1.1
  have hr : t2_RS f := t2_Good.RS hg.1
  have n16 := I.rhu.1
  have n5 : 0 ≤ (f 1 5).toInt ∧ (f 1 5).toInt ≤ 16 := I.hc
  have s12 : f 4 12 = f 280 46 := I.2.1 12 (by decide)
  have b12 := I.2.2.2.2.1 12 (by decide)
  have b0 : 0 ≤ (f 280 46).toInt := b12.1
  by_cases h : (0 ≤ a.toInt ∧ a.toInt < (f 280 2).toInt) ∧ 0 < (f 280 46).toInt
  · obtain ⟨A, hA⟩ := t2_nat h.1.1
    have hA1 : A < 16 := by omega
    have el : c0_leastPart_v f = r_leastPart_v f := I.least
    have rc := (I.2.2.2.1 A (by omega)).1
    have ch : f (18 + 4 * A) 2 = f 280 (444 + 61 * A + 1) := rc.1.2.2
    have cp : f (18 + 4 * A) 0 = f 280 (444 + 61 * A + 0) := rc.1.1
    have ev : r_chargeAt_v f a A (r_leastPart_v f) = t2_chargeBy_v (r_leastPart_v f) (f 280 (444 + 61 * A + 0)) := by
      unfold r_chargeAt_v
      exact (t2_chg (r_least_b I.rhu.2) (I.rhu.2 A (by omega)).1).2.2.2
    have eo : f (18 + 4 * A) 2 - t2_chargeBy_v (c0_leastPart_v f) (f (18 + 4 * A) 0) = f 280 (444 + 61 * A + 1) - r_chargeAt_v f a A (r_leastPart_v f) := by
      rw [el, ev, ch, cp]
    have nz : f 280 46 ≠ 0 := fun e => by
      rw [e] at h
      exact absurd h.2 (by decide)
    by_cases ho : 0 < (f 280 (444 + 61 * A + 1) - r_chargeAt_v f a A (r_leastPart_v f)).toInt
    · refine t2_qq (y := ((f 280 (444 + 61 * A + 1) - r_chargeAt_v f a A (r_leastPart_v f)) + f 280 46 - (1 : Int32)) / f 280 46) hg (fun Q k => ?_) (fun Q k => ?_)
      · show fl_Tq (pw_P L xs) 132 0 [some (.inr (.inr (.inl (0, 0)))), some (.inl a), none, none] [] (f, l) Q
        refine x_need_A (fun h1 => ?_) (fun _ _ => x_need_B hA hA1 n5 (fun _ => ?_) (fun h1 => ?_)) (fun _ h1 => ?_)
        · rw [t2_isc n5, e5] at h1
          exact absurd h.1 h1
        · rw [eo, s12]
          refine fl_Tq.dv rfl (fl_bo rfl) nz ?_
          exact fl_Tq.ret rfl rfl rfl k
        · rw [eo] at h1
          exact absurd ho h1
        · rw [s12] at h1
          exact absurd h.2 h1
      · show fl_Tq (pw_P L xs) 279 0 [some (.inr (.inr (.inl (76, 277)))), some (.inl a), none] [] (f, l) Q
        refine y_need_A (fun h1 => ?_) (fun _ h1 => ?_) (fun _ _ => y_need_B hA hA1 n16 I.rhu.2 (fun _ => ?_) (fun h1 => absurd ho h1))
        · rw [r_isc n16] at h1
          exact absurd h.1 h1
        · omega
        · refine fl_Tq.dv rfl (fl_bo rfl) nz ?_
          exact fl_Tq.ret rfl rfl rfl k
    · refine t2_qq (y := (0 : Int32)) hg (fun Q k => ?_) (fun Q k => ?_)
      · show fl_Tq (pw_P L xs) 132 0 [some (.inr (.inr (.inl (0, 0)))), some (.inl a), none, none] [] (f, l) Q
        refine x_need_A (fun h1 => ?_) (fun _ _ => x_need_B hA hA1 n5 (fun h1 => ?_) (fun _ => k)) (fun _ h1 => ?_)
        · rw [t2_isc n5, e5] at h1
          exact absurd h.1 h1
        · rw [eo] at h1
          exact absurd h1 ho
        · rw [s12] at h1
          exact absurd h.2 h1
      · show fl_Tq (pw_P L xs) 279 0 [some (.inr (.inr (.inl (76, 277)))), some (.inl a), none] [] (f, l) Q
        refine y_need_A (fun h1 => ?_) (fun _ h1 => ?_) (fun _ _ => y_need_B hA hA1 n16 I.rhu.2 (fun h1 => absurd h1 ho) (fun _ => k))
        · rw [r_isc n16] at h1
          exact absurd h.1 h1
        · omega
  · refine t2_qq (y := (-1 : Int32)) hg (fun Q k => ?_) (fun Q k => ?_)
    · show fl_Tq (pw_P L xs) 132 0 [some (.inr (.inr (.inl (0, 0)))), some (.inl a), none, none] [] (f, l) Q
      refine x_need_A (fun _ => k) (fun h1 h2 => ?_) (fun _ _ => k)
      rw [t2_isc n5, e5, Classical.not_not] at h1
      rw [s12] at h2
      exact absurd ⟨h1, h2⟩ h
    · show fl_Tq (pw_P L xs) 279 0 [some (.inr (.inr (.inl (76, 277)))), some (.inl a), none] [] (f, l) Q
      refine y_need_A (fun _ => k) (fun _ _ => k) (fun h1 h2 => ?_)
      rw [r_isc n16, Classical.not_not] at h1
      exact absurd ⟨h1, by omega⟩ h

end

/-! 95.05.11p33.lean.txt -/
section
theorem x_culprit_A {L : Nat} {xs : Nat → Int32} {f : t2_F} {l : t2_L} {Q : Option fl_V → fl_M → Prop} {a : Int32}  (k : ((t2_within_v a (0 : Int32) (3 : Int32)).toInt = 0) → Q (some (.inl (-1 : Int32))) (f, l)) (k1 : (¬ ((t2_within_v a (0 : Int32) (3 : Int32)).toInt = 0)) → fl_Tq (pw_P L xs) 134 9 [some (.inr (.inr (.inl (0, 0)))), some (.inl a)] [] (f, l) Q) : fl_Tq (pw_P L xs) 134 0 [some (.inr (.inr (.inl (0, 0)))), some (.inl a)] [] (f, l) Q := by
  refine fl_Tq.stp (pc' := 1) (lv' := [some (.inr (.inr (.inl (0, 0)))), some (.inl a)]) (st' := [.inl a]) (m' := (f, l)) rfl rfl (fl_bo rfl) rfl ?_
  refine fl_Tq.cI (c := (0 : Int32)) rfl (by decide +kernel) (fl_bo rfl) ?_
  refine fl_Tq.cI (c := (3 : Int32)) rfl (by decide +kernel) (fl_bo rfl) ?_
  refine fl_Tq.cal rfl rfl (fl_bo rfl) rfl ?_
  refine t2_within_q  ?_
  show fl_Tq _ 134 6 [some (.inr (.inr (.inl (0, 0)))), some (.inl a)] [.inl (t2_within_v a (0 : Int32) (3 : Int32))] (f, l) _
  by_cases h1 : (t2_within_v a (0 : Int32) (3 : Int32)).toInt = 0
  · refine fl_Tq.zt rfl (fl_bo rfl) (c1_eq_t h1) rfl ?_
    refine fl_Tq.cI (c := (-1 : Int32)) rfl (by decide +kernel) (fl_bo rfl) ?_
    exact fl_Tq.ret rfl rfl rfl (k h1)
  · refine fl_Tq.zf rfl (fl_bo rfl) (c1_eq_f h1) rfl ?_
    exact k1 h1
theorem x_culprit_B {L : Nat} {xs : Nat → Int32} {f : t2_F} {l : t2_L} {Q : Option fl_V → fl_M → Prop} {a : Int32} {A : Nat} (hA : a.toInt = (A : Int)) (hA1 : A < 4) (k : Q (some (.inl (f 12 A))) (f, l)) : fl_Tq (pw_P L xs) 134 9 [some (.inr (.inr (.inl (0, 0)))), some (.inl a)] [] (f, l) Q := by
  refine fl_Tq.stp (pc' := 10) (lv' := [some (.inr (.inr (.inl (0, 0)))), some (.inl a)]) (st' := [.inr (.inr (.inl (0, 0)))]) (m' := (f, l)) rfl rfl (fl_bo rfl) rfl ?_
  refine fl_Tq.stp (pc' := 13) (lv' := [some (.inr (.inr (.inl (0, 0)))), some (.inl a)]) (st' := [.inr (.inr (.inl (1, 1)))]) (m' := (f, l)) rfl rfl (fl_bo rfl) rfl ?_
  refine fl_Tq.stp (pc' := 16) (lv' := [some (.inr (.inr (.inl (0, 0)))), some (.inl a)]) (st' := [.inr (.inr (.inl (10, 10)))]) (m' := (f, l)) rfl rfl (fl_bo rfl) rfl ?_
  refine fl_Tq.stp (pc' := 19) (lv' := [some (.inr (.inr (.inl (0, 0)))), some (.inl a)]) (st' := [.inr (.inr (.inl (12, 12)))]) (m' := (f, l)) rfl rfl (fl_bo rfl) rfl ?_
  refine fl_Tq.stp (pc' := 20) (lv' := [some (.inr (.inr (.inl (0, 0)))), some (.inl a)]) (st' := [.inl a, .inr (.inr (.inl (12, 12)))]) (m' := (f, l)) rfl rfl (fl_bo rfl) rfl ?_
  refine fl_Tq.ldV (p := 12) (τ := 12) (n := 4) (z := (0, 0, 0)) (k := A) (v := f 12 A) rfl (fl_bo rfl) rfl hA hA1 rfl ?_
  refine fl_Tq.stp (pc' := 25) (lv' := [some (.inr (.inr (.inl (0, 0)))), some (.inl a)]) (st' := [.inl (f 12 A)]) (m' := (f, l)) rfl rfl (fl_bo rfl) rfl ?_
  exact fl_Tq.ret rfl rfl rfl k
theorem y_culprit_A {L : Nat} {xs : Nat → Int32} {f : t2_F} {l : t2_L} {Q : Option fl_V → fl_M → Prop} {a : Int32}  (k : ((r_isIn_v a (0 : Int32) (3 : Int32)).toInt = 0) → Q (some (.inl (-1 : Int32))) (f, l)) (k1 : (¬ ((r_isIn_v a (0 : Int32) (3 : Int32)).toInt = 0)) → fl_Tq (pw_P L xs) 298 9 [some (.inr (.inr (.inl (76, 277)))), some (.inl a)] [] (f, l) Q) : fl_Tq (pw_P L xs) 298 0 [some (.inr (.inr (.inl (76, 277)))), some (.inl a)] [] (f, l) Q := by
  refine fl_Tq.stp (pc' := 1) (lv' := [some (.inr (.inr (.inl (76, 277)))), some (.inl a)]) (st' := [.inl a]) (m' := (f, l)) rfl rfl (fl_bo rfl) rfl ?_
  refine fl_Tq.cI (c := (0 : Int32)) rfl (by decide +kernel) (fl_bo rfl) ?_
  refine fl_Tq.cI (c := (3 : Int32)) rfl (by decide +kernel) (fl_bo rfl) ?_
  refine fl_Tq.cal rfl rfl (fl_bo rfl) rfl ?_
  refine r_isIn_q  ?_
  show fl_Tq _ 298 6 [some (.inr (.inr (.inl (76, 277)))), some (.inl a)] [.inl (r_isIn_v a (0 : Int32) (3 : Int32))] (f, l) _
  by_cases h1 : (r_isIn_v a (0 : Int32) (3 : Int32)).toInt = 0
  · refine fl_Tq.zt rfl (fl_bo rfl) (c1_eq_t h1) rfl ?_
    refine fl_Tq.cI (c := (-1 : Int32)) rfl (by decide +kernel) (fl_bo rfl) ?_
    exact fl_Tq.ret rfl rfl rfl (k h1)
  · refine fl_Tq.zf rfl (fl_bo rfl) (c1_eq_f h1) rfl ?_
    exact k1 h1
theorem y_culprit_B {L : Nat} {xs : Nat → Int32} {f : t2_F} {l : t2_L} {Q : Option fl_V → fl_M → Prop} {a : Int32} {A : Nat} (hA : a.toInt = (A : Int)) (hA1 : A < 4) (k : Q (some (.inl (f 280 (311 + A)))) (f, l)) : fl_Tq (pw_P L xs) 298 9 [some (.inr (.inr (.inl (76, 277)))), some (.inl a)] [] (f, l) Q := by
  refine fl_Tq.stp (pc' := 10) (lv' := [some (.inr (.inr (.inl (76, 277)))), some (.inl a)]) (st' := [.inr (.inr (.inl (76, 277)))]) (m' := (f, l)) rfl rfl (fl_bo rfl) rfl ?_
  refine fl_Tq.stp (pc' := 13) (lv' := [some (.inr (.inr (.inl (76, 277)))), some (.inl a)]) (st' := [.inr (.inr (.inl (79, 280)))]) (m' := (f, l)) rfl rfl (fl_bo rfl) rfl ?_
  refine fl_Tq.cS (c := (311 : Int32)) rfl (by decide +kernel) (fl_bo rfl) ?_
  refine fl_Tq.stp (pc' := 17) (lv' := [some (.inr (.inr (.inl (76, 277)))), some (.inl a)]) (st' := [.inl a, .inl (311 : Int32), .inr (.inr (.inl (79, 280)))]) (m' := (f, l)) rfl rfl (fl_bo rfl) rfl ?_
  refine fl_Tq.stp (pc' := 18) (lv' := [some (.inr (.inr (.inl (76, 277)))), some (.inl a)]) (st' := [.inl ((311 : Int32) + a), .inr (.inr (.inl (79, 280)))]) (m' := (f, l)) rfl rfl (fl_bo rfl) rfl ?_
  refine fl_Tq.ldV (p := 280) (τ := 79) (n := 29780) (z := (0, 0, 0)) (k := 311 + A) (v := f 280 (311 + A)) rfl (fl_bo rfl) rfl (t2_ia (by decide +kernel) hA (by omega)) (by omega) rfl ?_
  refine fl_Tq.stp (pc' := 23) (lv' := [some (.inr (.inr (.inl (76, 277)))), some (.inl a)]) (st' := [.inl (f 280 (311 + A))]) (m' := (f, l)) rfl rfl (fl_bo rfl) rfl ?_
  exact fl_Tq.ret rfl rfl rfl k
/-! ===== culprit, on both sides ===== -/
theorem t2_cmp_33 {L : Nat} {xs : Nat → Int32} {f : t2_F} {l : t2_L} {a : Int32} (_hall : ∀ c ∈ at_CM ++ at_CA, at_Valid at_XI (pw_P L xs) c) (hg : t2_Z (f, l)) : fl_Tq (pw_P L xs) 134 0 (fl_args (am_mxl (pw_P L xs) 134) [lx_x, .inl a]) [] (f, l) (t2_End L xs 298 [at_this, .inl a]) := by
  have I : c0_I f f := hg.2.1
  have c0 : (0 : Int32).toInt = 0 := rfl
  have ct : (3 : Int32).toInt = 3 := by decide +kernel
  by_cases h : 0 ≤ a.toInt ∧ a.toInt ≤ 3
  · obtain ⟨A, hA⟩ := t2_nat h.1
    have hA1 : A < 4 := by omega
    have e : f 12 A = f 280 (311 + A) := I.2.2.1.2.1.2.2.1 A hA1
    refine t2_qq (y := f 280 (311 + A)) hg (fun Q k => ?_) (fun Q k => ?_)
    · show fl_Tq (pw_P L xs) 134 0 [some (.inr (.inr (.inl (0, 0)))), some (.inl a)] [] (f, l) Q
      refine x_culprit_A (fun h1 => ?_) (fun _ => x_culprit_B hA hA1 ?_)
      · rw [t2_w0, c0, ct] at h1
        exact absurd h h1
      · rw [e]
        exact k
    · show fl_Tq (pw_P L xs) 298 0 [some (.inr (.inr (.inl (76, 277)))), some (.inl a)] [] (f, l) Q
      refine y_culprit_A (fun h1 => ?_) (fun _ => y_culprit_B hA hA1 k)
      rw [r_i0, c0, ct] at h1
      exact absurd h h1
  · refine t2_qq (y := (-1 : Int32)) hg (fun Q k => ?_) (fun Q k => ?_)
    · show fl_Tq (pw_P L xs) 134 0 [some (.inr (.inr (.inl (0, 0)))), some (.inl a)] [] (f, l) Q
      refine x_culprit_A (fun _ => k) (fun h1 => ?_)
      rw [t2_w0, c0, ct] at h1
      exact absurd h h1
    · show fl_Tq (pw_P L xs) 298 0 [some (.inr (.inr (.inl (76, 277)))), some (.inl a)] [] (f, l) Q
      refine y_culprit_A (fun _ => k) (fun h1 => ?_)
      rw [r_i0, c0, ct] at h1
      exact absurd h h1

end

/-! 95.05.12p34.lean.txt -/
section
theorem x_since_A {L : Nat} {xs : Nat → Int32} {f : t2_F} {l : t2_L} {Q : Option fl_V → fl_M → Prop} {a b c : Int32}  (k : ((t2_within_v a (0 : Int32) (2 : Int32)).toInt = 0) → Q (some (.inl (-1000000000 : Int32))) (f, l)) (k1 : (¬ ((t2_within_v a (0 : Int32) (2 : Int32)).toInt = 0)) → ((c0_hasCell_v f b).toInt = 0) → Q (some (.inl (-1000000000 : Int32))) (f, l)) (k2 : (¬ ((t2_within_v a (0 : Int32) (2 : Int32)).toInt = 0)) → (¬ ((c0_hasCell_v f b).toInt = 0)) → fl_Tq (pw_P L xs) 135 20 [some (.inr (.inr (.inl (0, 0)))), some (.inl a), some (.inl b), some (.inl c), none] [] (f, l) Q) : fl_Tq (pw_P L xs) 135 0 [some (.inr (.inr (.inl (0, 0)))), some (.inl a), some (.inl b), some (.inl c), none] [] (f, l) Q := by
  refine fl_Tq.stp (pc' := 1) (lv' := [some (.inr (.inr (.inl (0, 0)))), some (.inl a), some (.inl b), some (.inl c), none]) (st' := [.inl a]) (m' := (f, l)) rfl rfl (fl_bo rfl) rfl ?_
  refine fl_Tq.cI (c := (0 : Int32)) rfl (by decide +kernel) (fl_bo rfl) ?_
  refine fl_Tq.cI (c := (2 : Int32)) rfl (by decide +kernel) (fl_bo rfl) ?_
  refine fl_Tq.cal rfl rfl (fl_bo rfl) rfl ?_
  refine t2_within_q  ?_
  show fl_Tq _ 135 6 [some (.inr (.inr (.inl (0, 0)))), some (.inl a), some (.inl b), some (.inl c), none] [.inl (t2_within_v a (0 : Int32) (2 : Int32))] (f, l) _
  by_cases h1 : (t2_within_v a (0 : Int32) (2 : Int32)).toInt = 0
  · refine fl_Tq.zt rfl (fl_bo rfl) (c1_eq_t h1) rfl ?_
    refine fl_Tq.stp (pc' := 38) (lv' := [some (.inr (.inr (.inl (0, 0)))), some (.inl a), some (.inl b), some (.inl c), none]) (st' := [.inl (-1000000000 : Int32)]) (m' := (f, l)) rfl rfl (fl_bo rfl) rfl ?_
    exact fl_Tq.ret rfl rfl rfl (k h1)
  · refine fl_Tq.zf rfl (fl_bo rfl) (c1_eq_f h1) rfl ?_
    refine fl_Tq.stp (pc' := 10) (lv' := [some (.inr (.inr (.inl (0, 0)))), some (.inl a), some (.inl b), some (.inl c), none]) (st' := [.inr (.inr (.inl (0, 0)))]) (m' := (f, l)) rfl rfl (fl_bo rfl) rfl ?_
    refine fl_Tq.stp (pc' := 13) (lv' := [some (.inr (.inr (.inl (0, 0)))), some (.inl a), some (.inl b), some (.inl c), none]) (st' := [.inr (.inr (.inl (1, 1)))]) (m' := (f, l)) rfl rfl (fl_bo rfl) rfl ?_
    refine fl_Tq.stp (pc' := 14) (lv' := [some (.inr (.inr (.inl (0, 0)))), some (.inl a), some (.inl b), some (.inl c), none]) (st' := [.inl b, .inr (.inr (.inl (1, 1)))]) (m' := (f, l)) rfl rfl (fl_bo rfl) rfl ?_
    refine fl_Tq.cal rfl rfl (fl_bo rfl) rfl ?_
    refine c0_hasCell_q  ?_
    show fl_Tq _ 135 17 [some (.inr (.inr (.inl (0, 0)))), some (.inl a), some (.inl b), some (.inl c), none] [.inl (c0_hasCell_v f b)] (f, l) _
    by_cases h2 : (c0_hasCell_v f b).toInt = 0
    · refine fl_Tq.zt rfl (fl_bo rfl) (c1_eq_t h2) rfl ?_
      refine fl_Tq.stp (pc' := 38) (lv' := [some (.inr (.inr (.inl (0, 0)))), some (.inl a), some (.inl b), some (.inl c), none]) (st' := [.inl (-1000000000 : Int32)]) (m' := (f, l)) rfl rfl (fl_bo rfl) rfl ?_
      exact fl_Tq.ret rfl rfl rfl (k1 h1 h2)
    · refine fl_Tq.zf rfl (fl_bo rfl) (c1_eq_f h2) rfl ?_
      exact k2 h1 h2
theorem x_since_B {L : Nat} {xs : Nat → Int32} {f : t2_F} {l : t2_L} {Q : Option fl_V → fl_M → Prop} {a b c : Int32} {A : Nat} (hA : a.toInt = (A : Int)) (hA1 : A < 3) (k : (b.toInt < (f (82 + 3 * A) 2).toInt) → fl_Tq (pw_P L xs) 135 39 [some (.inr (.inr (.inl (0, 0)))), some (.inl a), some (.inl b), some (.inl c), none] [] (f, l) Q) (k1 : (¬ (b.toInt < (f (82 + 3 * A) 2).toInt)) → Q (some (.inl (-1000000000 : Int32))) (f, l)) : fl_Tq (pw_P L xs) 135 20 [some (.inr (.inr (.inl (0, 0)))), some (.inl a), some (.inl b), some (.inl c), none] [] (f, l) Q := by
  refine fl_Tq.stp (pc' := 21) (lv' := [some (.inr (.inr (.inl (0, 0)))), some (.inl a), some (.inl b), some (.inl c), none]) (st' := [.inl b]) (m' := (f, l)) rfl rfl (fl_bo rfl) rfl ?_
  refine fl_Tq.stp (pc' := 22) (lv' := [some (.inr (.inr (.inl (0, 0)))), some (.inl a), some (.inl b), some (.inl c), none]) (st' := [.inr (.inr (.inl (0, 0))), .inl b]) (m' := (f, l)) rfl rfl (fl_bo rfl) rfl ?_
  refine fl_Tq.stp (pc' := 25) (lv' := [some (.inr (.inr (.inl (0, 0)))), some (.inl a), some (.inl b), some (.inl c), none]) (st' := [.inr (.inr (.inl (1, 1))), .inl b]) (m' := (f, l)) rfl rfl (fl_bo rfl) rfl ?_
  refine fl_Tq.stp (pc' := 28) (lv' := [some (.inr (.inr (.inl (0, 0)))), some (.inl a), some (.inl b), some (.inl c), none]) (st' := [.inr (.inr (.inl (15, 15))), .inl b]) (m' := (f, l)) rfl rfl (fl_bo rfl) rfl ?_
  refine fl_Tq.stp (pc' := 29) (lv' := [some (.inr (.inr (.inl (0, 0)))), some (.inl a), some (.inl b), some (.inl c), none]) (st' := [.inl a, .inr (.inr (.inl (15, 15))), .inl b]) (m' := (f, l)) rfl rfl (fl_bo rfl) rfl ?_
  refine fl_Tq.qldM (p := 15) (τ := 15) (n := 3) (t := 22) (b := 67) (d := 2) (k := A) rfl (fl_bo rfl) rfl hA hA1 ?_
  show fl_Tq _ 135 30 [some (.inr (.inr (.inl (0, 0)))), some (.inl a), some (.inl b), some (.inl c), none] [.inr (.inr (.inl (22, 82 + 3 * A))), .inl b] (f, l) _
  refine fl_Tq.gfV (k := 2) (v := f (82 + 3 * A) 2) rfl (fl_oks_ok ⟨(t2_km0 hA1), True.intro, True.intro⟩) rfl rfl ?_
  by_cases h1 : b.toInt < (f (82 + 3 * A) 2).toInt
  · refine fl_Tq.jt rfl (fl_bo rfl) (c2_lt_t h1) rfl ?_
    exact k h1
  · refine fl_Tq.jf rfl (fl_bo rfl) (c2_lt_f h1) rfl ?_
    refine fl_Tq.stp (pc' := 38) (lv' := [some (.inr (.inr (.inl (0, 0)))), some (.inl a), some (.inl b), some (.inl c), none]) (st' := [.inl (-1000000000 : Int32)]) (m' := (f, l)) rfl rfl (fl_bo rfl) rfl ?_
    exact fl_Tq.ret rfl rfl rfl (k1 h1)
theorem x_since_C {L : Nat} {xs : Nat → Int32} {f : t2_F} {l : t2_L} {Q : Option fl_V → fl_M → Prop} {a b c : Int32} {A B : Nat} (hA : a.toInt = (A : Int)) (hA1 : A < 3) (hB : b.toInt = (B : Int)) (hB1 : B < 16) (k : (c.toInt = 0) → Q (some (.inl (f (83 + 3 * A) B))) (f, l)) (k1 : (¬ (c.toInt = 0)) → (c.toInt = 1) → Q (some (.inl ((f (18 + 4 * B) 3) - (f (83 + 3 * A) B)))) (f, l)) (k2 : (¬ (c.toInt = 0)) → (¬ (c.toInt = 1)) → (c.toInt = 2) → Q (some (.inl ((f (18 + 4 * B) 9) - (f (84 + 3 * A) B)))) (f, l)) (k3 : (¬ (c.toInt = 0)) → (¬ (c.toInt = 1)) → (¬ (c.toInt = 2)) → (c.toInt = 3) → Q (some (.inl ((f 1 6) - (f (82 + 3 * A) 3)))) (f, l)) (k4 : (¬ (c.toInt = 0)) → (¬ (c.toInt = 1)) → (¬ (c.toInt = 2)) → (¬ (c.toInt = 3)) → Q (some (.inl (-1000000000 : Int32))) (f, l)) : fl_Tq (pw_P L xs) 135 39 [some (.inr (.inr (.inl (0, 0)))), some (.inl a), some (.inl b), some (.inl c), none] [] (f, l) Q := by
  refine fl_Tq.stp (pc' := 40) (lv' := [some (.inr (.inr (.inl (0, 0)))), some (.inl a), some (.inl b), some (.inl c), none]) (st' := [.inr (.inr (.inl (0, 0)))]) (m' := (f, l)) rfl rfl (fl_bo rfl) rfl ?_
  refine fl_Tq.stp (pc' := 43) (lv' := [some (.inr (.inr (.inl (0, 0)))), some (.inl a), some (.inl b), some (.inl c), none]) (st' := [.inr (.inr (.inl (1, 1)))]) (m' := (f, l)) rfl rfl (fl_bo rfl) rfl ?_
  refine fl_Tq.stp (pc' := 46) (lv' := [some (.inr (.inr (.inl (0, 0)))), some (.inl a), some (.inl b), some (.inl c), none]) (st' := [.inr (.inr (.inl (15, 15)))]) (m' := (f, l)) rfl rfl (fl_bo rfl) rfl ?_
  refine fl_Tq.stp (pc' := 47) (lv' := [some (.inr (.inr (.inl (0, 0)))), some (.inl a), some (.inl b), some (.inl c), none]) (st' := [.inl a, .inr (.inr (.inl (15, 15)))]) (m' := (f, l)) rfl rfl (fl_bo rfl) rfl ?_
  refine fl_Tq.qldM (p := 15) (τ := 15) (n := 3) (t := 22) (b := 67) (d := 2) (k := A) rfl (fl_bo rfl) rfl hA hA1 ?_
  show fl_Tq _ 135 48 [some (.inr (.inr (.inl (0, 0)))), some (.inl a), some (.inl b), some (.inl c), none] [.inr (.inr (.inl (22, 82 + 3 * A)))] (f, l) _
  refine fl_Tq.stp (pc' := 50) (lv' := [some (.inr (.inr (.inl (0, 0)))), some (.inl a), some (.inl b), some (.inl c), some (.inr (.inr (.inl (22, 82 + 3 * A))))]) (st' := []) (m' := (f, l)) rfl rfl (fl_oks_ok ⟨(t2_km0 hA1), True.intro⟩) rfl ?_
  refine fl_Tq.stp (pc' := 51) (lv' := [some (.inr (.inr (.inl (0, 0)))), some (.inl a), some (.inl b), some (.inl c), some (.inr (.inr (.inl (22, 82 + 3 * A))))]) (st' := [.inl c]) (m' := (f, l)) rfl rfl (fl_bo rfl) rfl ?_
  by_cases h1 : c.toInt = 0
  · refine fl_Tq.swI (k := 0) rfl (fl_bo rfl) h1 rfl rfl ?_
    refine fl_Tq.stp (pc' := 82) (lv' := [some (.inr (.inr (.inl (0, 0)))), some (.inl a), some (.inl b), some (.inl c), some (.inr (.inr (.inl (22, 82 + 3 * A))))]) (st' := [.inr (.inr (.inl (22, 82 + 3 * A)))]) (m' := (f, l)) rfl rfl (fl_bo rfl) rfl ?_
    refine fl_Tq.gfR (d := 1) (p' := 83 + 3 * A) rfl (fl_oks_ok ⟨(t2_km0 hA1), True.intro⟩) rfl (by omega) ?_
    refine fl_Tq.stp (pc' := 86) (lv' := [some (.inr (.inr (.inl (0, 0)))), some (.inl a), some (.inl b), some (.inl c), some (.inr (.inr (.inl (22, 82 + 3 * A))))]) (st' := [.inl b, .inr (.inr (.inl (23, 83 + 3 * A)))]) (m' := (f, l)) rfl rfl (fl_oks_ok ⟨(t2_km1 hA1), True.intro⟩) rfl ?_
    refine fl_Tq.ldV (p := 83 + 3 * A) (τ := 23) (n := 16) (z := (0, 0, 0)) (k := B) (v := f (83 + 3 * A) B) rfl (fl_oks_ok ⟨True.intro, (t2_km1 hA1), True.intro⟩) rfl hB hB1 rfl ?_
    exact fl_Tq.ret rfl rfl rfl (k h1)
  by_cases h2 : c.toInt = 1
  · refine fl_Tq.swI (k := 1) rfl (fl_bo rfl) h2 rfl rfl ?_
    refine fl_Tq.stp (pc' := 89) (lv' := [some (.inr (.inr (.inl (0, 0)))), some (.inl a), some (.inl b), some (.inl c), some (.inr (.inr (.inl (22, 82 + 3 * A))))]) (st' := [.inr (.inr (.inl (0, 0)))]) (m' := (f, l)) rfl rfl (fl_bo rfl) rfl ?_
    refine fl_Tq.stp (pc' := 92) (lv' := [some (.inr (.inr (.inl (0, 0)))), some (.inl a), some (.inl b), some (.inl c), some (.inr (.inr (.inl (22, 82 + 3 * A))))]) (st' := [.inr (.inr (.inl (1, 1)))]) (m' := (f, l)) rfl rfl (fl_bo rfl) rfl ?_
    refine fl_Tq.stp (pc' := 95) (lv' := [some (.inr (.inr (.inl (0, 0)))), some (.inl a), some (.inl b), some (.inl c), some (.inr (.inr (.inl (22, 82 + 3 * A))))]) (st' := [.inr (.inr (.inl (2, 2)))]) (m' := (f, l)) rfl rfl (fl_bo rfl) rfl ?_
    refine fl_Tq.stp (pc' := 96) (lv' := [some (.inr (.inr (.inl (0, 0)))), some (.inl a), some (.inl b), some (.inl c), some (.inr (.inr (.inl (22, 82 + 3 * A))))]) (st' := [.inl b, .inr (.inr (.inl (2, 2)))]) (m' := (f, l)) rfl rfl (fl_bo rfl) rfl ?_
    refine fl_Tq.qld (p := 2) (τ := 2) (n := 16) (t := 18) (b := 16) (d := 3) (k := B) rfl (fl_bo rfl) rfl hB hB1 ?_
    show fl_Tq _ 135 97 [some (.inr (.inr (.inl (0, 0)))), some (.inl a), some (.inl b), some (.inl c), some (.inr (.inr (.inl (22, 82 + 3 * A))))] [.inr (.inr (.inl (18, 18 + 4 * B)))] (f, l) _
    refine fl_Tq.gfV (k := 3) (v := f (18 + 4 * B) 3) rfl (fl_oks_ok ⟨(t2_kc0 hB1), True.intro⟩) rfl rfl ?_
    refine fl_Tq.stp (pc' := 102) (lv' := [some (.inr (.inr (.inl (0, 0)))), some (.inl a), some (.inl b), some (.inl c), some (.inr (.inr (.inl (22, 82 + 3 * A))))]) (st' := [.inr (.inr (.inl (22, 82 + 3 * A))), .inl (f (18 + 4 * B) 3)]) (m' := (f, l)) rfl rfl (fl_bo rfl) rfl ?_
    refine fl_Tq.gfR (d := 1) (p' := 83 + 3 * A) rfl (fl_oks_ok ⟨(t2_km0 hA1), True.intro, True.intro⟩) rfl (by omega) ?_
    refine fl_Tq.stp (pc' := 106) (lv' := [some (.inr (.inr (.inl (0, 0)))), some (.inl a), some (.inl b), some (.inl c), some (.inr (.inr (.inl (22, 82 + 3 * A))))]) (st' := [.inl b, .inr (.inr (.inl (23, 83 + 3 * A))), .inl (f (18 + 4 * B) 3)]) (m' := (f, l)) rfl rfl (fl_oks_ok ⟨(t2_km1 hA1), True.intro, True.intro⟩) rfl ?_
    refine fl_Tq.ldV (p := 83 + 3 * A) (τ := 23) (n := 16) (z := (0, 0, 0)) (k := B) (v := f (83 + 3 * A) B) rfl (fl_oks_ok ⟨True.intro, (t2_km1 hA1), True.intro, True.intro⟩) rfl hB hB1 rfl ?_
    refine fl_Tq.stp (pc' := 108) (lv' := [some (.inr (.inr (.inl (0, 0)))), some (.inl a), some (.inl b), some (.inl c), some (.inr (.inr (.inl (22, 82 + 3 * A))))]) (st' := [.inl ((f (18 + 4 * B) 3) - (f (83 + 3 * A) B))]) (m' := (f, l)) rfl rfl (fl_bo rfl) rfl ?_
    exact fl_Tq.ret rfl rfl rfl (k1 h1 h2)
  by_cases h3 : c.toInt = 2
  · refine fl_Tq.swI (k := 2) rfl (fl_bo rfl) h3 rfl rfl ?_
    refine fl_Tq.stp (pc' := 110) (lv' := [some (.inr (.inr (.inl (0, 0)))), some (.inl a), some (.inl b), some (.inl c), some (.inr (.inr (.inl (22, 82 + 3 * A))))]) (st' := [.inr (.inr (.inl (0, 0)))]) (m' := (f, l)) rfl rfl (fl_bo rfl) rfl ?_
    refine fl_Tq.stp (pc' := 113) (lv' := [some (.inr (.inr (.inl (0, 0)))), some (.inl a), some (.inl b), some (.inl c), some (.inr (.inr (.inl (22, 82 + 3 * A))))]) (st' := [.inr (.inr (.inl (1, 1)))]) (m' := (f, l)) rfl rfl (fl_bo rfl) rfl ?_
    refine fl_Tq.stp (pc' := 116) (lv' := [some (.inr (.inr (.inl (0, 0)))), some (.inl a), some (.inl b), some (.inl c), some (.inr (.inr (.inl (22, 82 + 3 * A))))]) (st' := [.inr (.inr (.inl (2, 2)))]) (m' := (f, l)) rfl rfl (fl_bo rfl) rfl ?_
    refine fl_Tq.stp (pc' := 117) (lv' := [some (.inr (.inr (.inl (0, 0)))), some (.inl a), some (.inl b), some (.inl c), some (.inr (.inr (.inl (22, 82 + 3 * A))))]) (st' := [.inl b, .inr (.inr (.inl (2, 2)))]) (m' := (f, l)) rfl rfl (fl_bo rfl) rfl ?_
    refine fl_Tq.qld (p := 2) (τ := 2) (n := 16) (t := 18) (b := 16) (d := 3) (k := B) rfl (fl_bo rfl) rfl hB hB1 ?_
    show fl_Tq _ 135 118 [some (.inr (.inr (.inl (0, 0)))), some (.inl a), some (.inl b), some (.inl c), some (.inr (.inr (.inl (22, 82 + 3 * A))))] [.inr (.inr (.inl (18, 18 + 4 * B)))] (f, l) _
    refine fl_Tq.gfV (k := 9) (v := f (18 + 4 * B) 9) rfl (fl_oks_ok ⟨(t2_kc0 hB1), True.intro⟩) rfl rfl ?_
    refine fl_Tq.stp (pc' := 123) (lv' := [some (.inr (.inr (.inl (0, 0)))), some (.inl a), some (.inl b), some (.inl c), some (.inr (.inr (.inl (22, 82 + 3 * A))))]) (st' := [.inr (.inr (.inl (22, 82 + 3 * A))), .inl (f (18 + 4 * B) 9)]) (m' := (f, l)) rfl rfl (fl_bo rfl) rfl ?_
    refine fl_Tq.gfR (d := 2) (p' := 84 + 3 * A) rfl (fl_oks_ok ⟨(t2_km0 hA1), True.intro, True.intro⟩) rfl (by omega) ?_
    refine fl_Tq.stp (pc' := 127) (lv' := [some (.inr (.inr (.inl (0, 0)))), some (.inl a), some (.inl b), some (.inl c), some (.inr (.inr (.inl (22, 82 + 3 * A))))]) (st' := [.inl b, .inr (.inr (.inl (24, 84 + 3 * A))), .inl (f (18 + 4 * B) 9)]) (m' := (f, l)) rfl rfl (fl_oks_ok ⟨(t2_km2 hA1), True.intro, True.intro⟩) rfl ?_
    refine fl_Tq.ldV (p := 84 + 3 * A) (τ := 24) (n := 16) (z := (0, 0, 0)) (k := B) (v := f (84 + 3 * A) B) rfl (fl_oks_ok ⟨True.intro, (t2_km2 hA1), True.intro, True.intro⟩) rfl hB hB1 rfl ?_
    refine fl_Tq.stp (pc' := 129) (lv' := [some (.inr (.inr (.inl (0, 0)))), some (.inl a), some (.inl b), some (.inl c), some (.inr (.inr (.inl (22, 82 + 3 * A))))]) (st' := [.inl ((f (18 + 4 * B) 9) - (f (84 + 3 * A) B))]) (m' := (f, l)) rfl rfl (fl_bo rfl) rfl ?_
    exact fl_Tq.ret rfl rfl rfl (k2 h1 h2 h3)
  by_cases h4 : c.toInt = 3
  · refine fl_Tq.swI (k := 3) rfl (fl_bo rfl) h4 rfl rfl ?_
    refine fl_Tq.stp (pc' := 131) (lv' := [some (.inr (.inr (.inl (0, 0)))), some (.inl a), some (.inl b), some (.inl c), some (.inr (.inr (.inl (22, 82 + 3 * A))))]) (st' := [.inr (.inr (.inl (0, 0)))]) (m' := (f, l)) rfl rfl (fl_bo rfl) rfl ?_
    refine fl_Tq.stp (pc' := 134) (lv' := [some (.inr (.inr (.inl (0, 0)))), some (.inl a), some (.inl b), some (.inl c), some (.inr (.inr (.inl (22, 82 + 3 * A))))]) (st' := [.inr (.inr (.inl (1, 1)))]) (m' := (f, l)) rfl rfl (fl_bo rfl) rfl ?_
    refine fl_Tq.gfV (k := 6) (v := f 1 6) rfl (fl_bo rfl) rfl rfl ?_
    refine fl_Tq.stp (pc' := 139) (lv' := [some (.inr (.inr (.inl (0, 0)))), some (.inl a), some (.inl b), some (.inl c), some (.inr (.inr (.inl (22, 82 + 3 * A))))]) (st' := [.inr (.inr (.inl (22, 82 + 3 * A))), .inl (f 1 6)]) (m' := (f, l)) rfl rfl (fl_bo rfl) rfl ?_
    refine fl_Tq.gfV (k := 3) (v := f (82 + 3 * A) 3) rfl (fl_oks_ok ⟨(t2_km0 hA1), True.intro, True.intro⟩) rfl rfl ?_
    refine fl_Tq.stp (pc' := 143) (lv' := [some (.inr (.inr (.inl (0, 0)))), some (.inl a), some (.inl b), some (.inl c), some (.inr (.inr (.inl (22, 82 + 3 * A))))]) (st' := [.inl ((f 1 6) - (f (82 + 3 * A) 3))]) (m' := (f, l)) rfl rfl (fl_bo rfl) rfl ?_
    exact fl_Tq.ret rfl rfl rfl (k3 h1 h2 h3 h4)
  refine fl_Tq.swD rfl (fl_bo rfl) (by omega) rfl ?_
  refine fl_Tq.stp (pc' := 146) (lv' := [some (.inr (.inr (.inl (0, 0)))), some (.inl a), some (.inl b), some (.inl c), some (.inr (.inr (.inl (22, 82 + 3 * A))))]) (st' := [.inl (-1000000000 : Int32)]) (m' := (f, l)) rfl rfl (fl_bo rfl) rfl ?_
  exact fl_Tq.ret rfl rfl rfl (k4 h1 h2 h3 h4)
theorem y_since_A {L : Nat} {xs : Nat → Int32} {f : t2_F} {l : t2_L} {Q : Option fl_V → fl_M → Prop} {a b c : Int32}  (k : ((r_isIn_v a (0 : Int32) (2 : Int32)).toInt = 0) → Q (some (.inl (-1000000000 : Int32))) (f, l)) (k1 : (¬ ((r_isIn_v a (0 : Int32) (2 : Int32)).toInt = 0)) → fl_Tq (pw_P L xs) 294 23 [some (.inr (.inr (.inl (76, 277)))), some (.inl a), some (.inl b), some (.inl c), some (.inl ((339 : Int32) + ((35 : Int32) * a)))] [] (f, l) Q) : fl_Tq (pw_P L xs) 294 0 [some (.inr (.inr (.inl (76, 277)))), some (.inl a), some (.inl b), some (.inl c), none] [] (f, l) Q := by
  refine fl_Tq.stp (pc' := 1) (lv' := [some (.inr (.inr (.inl (76, 277)))), some (.inl a), some (.inl b), some (.inl c), none]) (st' := [.inl a]) (m' := (f, l)) rfl rfl (fl_bo rfl) rfl ?_
  refine fl_Tq.cI (c := (0 : Int32)) rfl (by decide +kernel) (fl_bo rfl) ?_
  refine fl_Tq.cI (c := (2 : Int32)) rfl (by decide +kernel) (fl_bo rfl) ?_
  refine fl_Tq.cal rfl rfl (fl_bo rfl) rfl ?_
  refine r_isIn_q  ?_
  show fl_Tq _ 294 6 [some (.inr (.inr (.inl (76, 277)))), some (.inl a), some (.inl b), some (.inl c), none] [.inl (r_isIn_v a (0 : Int32) (2 : Int32))] (f, l) _
  by_cases h1 : (r_isIn_v a (0 : Int32) (2 : Int32)).toInt = 0
  · refine fl_Tq.zf rfl (fl_bo rfl) (c1_ne_f h1) rfl ?_
    refine fl_Tq.stp (pc' := 12) (lv' := [some (.inr (.inr (.inl (76, 277)))), some (.inl a), some (.inl b), some (.inl c), none]) (st' := [.inl (-1000000000 : Int32)]) (m' := (f, l)) rfl rfl (fl_bo rfl) rfl ?_
    exact fl_Tq.ret rfl rfl rfl (k h1)
  · refine fl_Tq.zt rfl (fl_bo rfl) (c1_ne_t h1) rfl ?_
    refine fl_Tq.cS (c := (339 : Int32)) rfl (by decide +kernel) (fl_bo rfl) ?_
    refine fl_Tq.cB (c := (35 : Int32)) rfl (by decide +kernel) (fl_bo rfl) ?_
    refine fl_Tq.stp (pc' := 19) (lv' := [some (.inr (.inr (.inl (76, 277)))), some (.inl a), some (.inl b), some (.inl c), none]) (st' := [.inl a, .inl (35 : Int32), .inl (339 : Int32)]) (m' := (f, l)) rfl rfl (fl_bo rfl) rfl ?_
    refine fl_Tq.stp (pc' := 20) (lv' := [some (.inr (.inr (.inl (76, 277)))), some (.inl a), some (.inl b), some (.inl c), none]) (st' := [.inl ((35 : Int32) * a), .inl (339 : Int32)]) (m' := (f, l)) rfl rfl (fl_bo rfl) rfl ?_
    refine fl_Tq.stp (pc' := 21) (lv' := [some (.inr (.inr (.inl (76, 277)))), some (.inl a), some (.inl b), some (.inl c), none]) (st' := [.inl ((339 : Int32) + ((35 : Int32) * a))]) (m' := (f, l)) rfl rfl (fl_bo rfl) rfl ?_
    refine fl_Tq.stp (pc' := 23) (lv' := [some (.inr (.inr (.inl (76, 277)))), some (.inl a), some (.inl b), some (.inl c), some (.inl ((339 : Int32) + ((35 : Int32) * a)))]) (st' := []) (m' := (f, l)) rfl rfl (fl_bo rfl) rfl ?_
    exact k1 h1
theorem y_since_B {L : Nat} {xs : Nat → Int32} {f : t2_F} {l : t2_L} {Q : Option fl_V → fl_M → Prop} {a b c : Int32} {A : Nat} (hA : a.toInt = (A : Int)) (hA1 : A < 3) (k : ((f 280 (339 + 35 * A)).toInt = 0) → Q (some (.inl (-1000000000 : Int32))) (f, l)) (k1 : (¬ ((f 280 (339 + 35 * A)).toInt = 0)) → ((r_isIn_v b (0 : Int32) ((f 280 (339 + 35 * A + 2)) - (1 : Int32))).toInt = 0) → Q (some (.inl (-1000000000 : Int32))) (f, l)) (k2 : (¬ ((f 280 (339 + 35 * A)).toInt = 0)) → (¬ ((r_isIn_v b (0 : Int32) ((f 280 (339 + 35 * A + 2)) - (1 : Int32))).toInt = 0)) → fl_Tq (pw_P L xs) 294 56 [some (.inr (.inr (.inl (76, 277)))), some (.inl a), some (.inl b), some (.inl c), some (.inl ((339 : Int32) + ((35 : Int32) * a)))] [] (f, l) Q) : fl_Tq (pw_P L xs) 294 23 [some (.inr (.inr (.inl (76, 277)))), some (.inl a), some (.inl b), some (.inl c), some (.inl ((339 : Int32) + ((35 : Int32) * a)))] [] (f, l) Q := by
  refine fl_Tq.stp (pc' := 24) (lv' := [some (.inr (.inr (.inl (76, 277)))), some (.inl a), some (.inl b), some (.inl c), some (.inl ((339 : Int32) + ((35 : Int32) * a)))]) (st' := [.inr (.inr (.inl (76, 277)))]) (m' := (f, l)) rfl rfl (fl_bo rfl) rfl ?_
  refine fl_Tq.stp (pc' := 27) (lv' := [some (.inr (.inr (.inl (76, 277)))), some (.inl a), some (.inl b), some (.inl c), some (.inl ((339 : Int32) + ((35 : Int32) * a)))]) (st' := [.inr (.inr (.inl (79, 280)))]) (m' := (f, l)) rfl rfl (fl_bo rfl) rfl ?_
  refine fl_Tq.stp (pc' := 29) (lv' := [some (.inr (.inr (.inl (76, 277)))), some (.inl a), some (.inl b), some (.inl c), some (.inl ((339 : Int32) + ((35 : Int32) * a)))]) (st' := [.inl ((339 : Int32) + ((35 : Int32) * a)), .inr (.inr (.inl (79, 280)))]) (m' := (f, l)) rfl rfl (fl_bo rfl) rfl ?_
  refine fl_Tq.ldV (p := 280) (τ := 79) (n := 29780) (z := (0, 0, 0)) (k := 339 + 35 * A) (v := f 280 (339 + 35 * A)) rfl (fl_bo rfl) rfl (t2_mi hA hA1) (by omega) rfl ?_
  by_cases h1 : (f 280 (339 + 35 * A)).toInt = 0
  · refine fl_Tq.zt rfl (fl_bo rfl) (c1_eq_t h1) rfl ?_
    refine fl_Tq.stp (pc' := 55) (lv' := [some (.inr (.inr (.inl (76, 277)))), some (.inl a), some (.inl b), some (.inl c), some (.inl ((339 : Int32) + ((35 : Int32) * a)))]) (st' := [.inl (-1000000000 : Int32)]) (m' := (f, l)) rfl rfl (fl_bo rfl) rfl ?_
    exact fl_Tq.ret rfl rfl rfl (k h1)
  · refine fl_Tq.zf rfl (fl_bo rfl) (c1_eq_f h1) rfl ?_
    refine fl_Tq.stp (pc' := 34) (lv' := [some (.inr (.inr (.inl (76, 277)))), some (.inl a), some (.inl b), some (.inl c), some (.inl ((339 : Int32) + ((35 : Int32) * a)))]) (st' := [.inl b]) (m' := (f, l)) rfl rfl (fl_bo rfl) rfl ?_
    refine fl_Tq.cI (c := (0 : Int32)) rfl (by decide +kernel) (fl_bo rfl) ?_
    refine fl_Tq.stp (pc' := 36) (lv' := [some (.inr (.inr (.inl (76, 277)))), some (.inl a), some (.inl b), some (.inl c), some (.inl ((339 : Int32) + ((35 : Int32) * a)))]) (st' := [.inr (.inr (.inl (76, 277))), .inl (0 : Int32), .inl b]) (m' := (f, l)) rfl rfl (fl_bo rfl) rfl ?_
    refine fl_Tq.stp (pc' := 39) (lv' := [some (.inr (.inr (.inl (76, 277)))), some (.inl a), some (.inl b), some (.inl c), some (.inl ((339 : Int32) + ((35 : Int32) * a)))]) (st' := [.inr (.inr (.inl (79, 280))), .inl (0 : Int32), .inl b]) (m' := (f, l)) rfl rfl (fl_bo rfl) rfl ?_
    refine fl_Tq.stp (pc' := 41) (lv' := [some (.inr (.inr (.inl (76, 277)))), some (.inl a), some (.inl b), some (.inl c), some (.inl ((339 : Int32) + ((35 : Int32) * a)))]) (st' := [.inl ((339 : Int32) + ((35 : Int32) * a)), .inr (.inr (.inl (79, 280))), .inl (0 : Int32), .inl b]) (m' := (f, l)) rfl rfl (fl_bo rfl) rfl ?_
    refine fl_Tq.cI (c := (2 : Int32)) rfl (by decide +kernel) (fl_bo rfl) ?_
    refine fl_Tq.stp (pc' := 43) (lv' := [some (.inr (.inr (.inl (76, 277)))), some (.inl a), some (.inl b), some (.inl c), some (.inl ((339 : Int32) + ((35 : Int32) * a)))]) (st' := [.inl (((339 : Int32) + ((35 : Int32) * a)) + (2 : Int32)), .inr (.inr (.inl (79, 280))), .inl (0 : Int32), .inl b]) (m' := (f, l)) rfl rfl (fl_bo rfl) rfl ?_
    refine fl_Tq.ldV (p := 280) (τ := 79) (n := 29780) (z := (0, 0, 0)) (k := 339 + 35 * A + 2) (v := f 280 (339 + 35 * A + 2)) rfl (fl_bo rfl) rfl (t2_ia (t2_mi hA hA1) (by decide +kernel) (by omega)) (by omega) rfl ?_
    refine fl_Tq.cI (c := (1 : Int32)) rfl (by decide +kernel) (fl_bo rfl) ?_
    refine fl_Tq.stp (pc' := 46) (lv' := [some (.inr (.inr (.inl (76, 277)))), some (.inl a), some (.inl b), some (.inl c), some (.inl ((339 : Int32) + ((35 : Int32) * a)))]) (st' := [.inl ((f 280 (339 + 35 * A + 2)) - (1 : Int32)), .inl (0 : Int32), .inl b]) (m' := (f, l)) rfl rfl (fl_bo rfl) rfl ?_
    refine fl_Tq.cal rfl rfl (fl_bo rfl) rfl ?_
    refine r_isIn_q  ?_
    show fl_Tq _ 294 49 [some (.inr (.inr (.inl (76, 277)))), some (.inl a), some (.inl b), some (.inl c), some (.inl ((339 : Int32) + ((35 : Int32) * a)))] [.inl (r_isIn_v b (0 : Int32) ((f 280 (339 + 35 * A + 2)) - (1 : Int32)))] (f, l) _
    by_cases h2 : (r_isIn_v b (0 : Int32) ((f 280 (339 + 35 * A + 2)) - (1 : Int32))).toInt = 0
    · refine fl_Tq.zf rfl (fl_bo rfl) (c1_ne_f h2) rfl ?_
      refine fl_Tq.stp (pc' := 55) (lv' := [some (.inr (.inr (.inl (76, 277)))), some (.inl a), some (.inl b), some (.inl c), some (.inl ((339 : Int32) + ((35 : Int32) * a)))]) (st' := [.inl (-1000000000 : Int32)]) (m' := (f, l)) rfl rfl (fl_bo rfl) rfl ?_
      exact fl_Tq.ret rfl rfl rfl (k1 h1 h2)
    · refine fl_Tq.zt rfl (fl_bo rfl) (c1_ne_t h2) rfl ?_
      exact k2 h1 h2
theorem y_since_C {L : Nat} {xs : Nat → Int32} {f : t2_F} {l : t2_L} {Q : Option fl_V → fl_M → Prop} {a b c : Int32} {A B : Nat} (hA : a.toInt = (A : Int)) (hA1 : A < 3) (hB : b.toInt = (B : Int)) (hB1 : B < 16) (hbn : (B : Int) < (f 280 2).toInt) (hk : ∀ C : Nat, (C : Int) < (f 280 2).toInt → t2_ck f C) (k : (c.toInt = 0) → Q (some (.inl (f 280 (339 + 35 * A + 3 + B)))) (f, l)) (k1 : (¬ (c.toInt = 0)) → (c.toInt = 1) → Q (some (.inl ((r_partOf_v f b B) - (f 280 (339 + 35 * A + 3 + B))))) (f, l)) (k2 : (¬ (c.toInt = 0)) → (¬ (c.toInt = 1)) → (c.toInt = 2) → Q (some (.inl ((f 280 (444 + 61 * B + 5)) - (f 280 (339 + 35 * A + 19 + B))))) (f, l)) (k3 : (¬ (c.toInt = 0)) → (¬ (c.toInt = 1)) → (¬ (c.toInt = 2)) → (c.toInt = 3) → Q (some (.inl ((f 280 7) - (f 280 (339 + 35 * A + 1))))) (f, l)) (k4 : (¬ (c.toInt = 0)) → (¬ (c.toInt = 1)) → (¬ (c.toInt = 2)) → (¬ (c.toInt = 3)) → Q (some (.inl (-1000000000 : Int32))) (f, l)) : fl_Tq (pw_P L xs) 294 56 [some (.inr (.inr (.inl (76, 277)))), some (.inl a), some (.inl b), some (.inl c), some (.inl ((339 : Int32) + ((35 : Int32) * a)))] [] (f, l) Q := by
  refine fl_Tq.stp (pc' := 57) (lv' := [some (.inr (.inr (.inl (76, 277)))), some (.inl a), some (.inl b), some (.inl c), some (.inl ((339 : Int32) + ((35 : Int32) * a)))]) (st' := [.inl c]) (m' := (f, l)) rfl rfl (fl_bo rfl) rfl ?_
  by_cases h1 : c.toInt = 0
  · refine fl_Tq.swI (k := 0) rfl (fl_bo rfl) h1 rfl rfl ?_
    refine fl_Tq.stp (pc' := 89) (lv' := [some (.inr (.inr (.inl (76, 277)))), some (.inl a), some (.inl b), some (.inl c), some (.inl ((339 : Int32) + ((35 : Int32) * a)))]) (st' := [.inr (.inr (.inl (76, 277)))]) (m' := (f, l)) rfl rfl (fl_bo rfl) rfl ?_
    refine fl_Tq.stp (pc' := 92) (lv' := [some (.inr (.inr (.inl (76, 277)))), some (.inl a), some (.inl b), some (.inl c), some (.inl ((339 : Int32) + ((35 : Int32) * a)))]) (st' := [.inr (.inr (.inl (79, 280)))]) (m' := (f, l)) rfl rfl (fl_bo rfl) rfl ?_
    refine fl_Tq.stp (pc' := 94) (lv' := [some (.inr (.inr (.inl (76, 277)))), some (.inl a), some (.inl b), some (.inl c), some (.inl ((339 : Int32) + ((35 : Int32) * a)))]) (st' := [.inl ((339 : Int32) + ((35 : Int32) * a)), .inr (.inr (.inl (79, 280)))]) (m' := (f, l)) rfl rfl (fl_bo rfl) rfl ?_
    refine fl_Tq.cI (c := (3 : Int32)) rfl (by decide +kernel) (fl_bo rfl) ?_
    refine fl_Tq.stp (pc' := 96) (lv' := [some (.inr (.inr (.inl (76, 277)))), some (.inl a), some (.inl b), some (.inl c), some (.inl ((339 : Int32) + ((35 : Int32) * a)))]) (st' := [.inl (((339 : Int32) + ((35 : Int32) * a)) + (3 : Int32)), .inr (.inr (.inl (79, 280)))]) (m' := (f, l)) rfl rfl (fl_bo rfl) rfl ?_
    refine fl_Tq.stp (pc' := 97) (lv' := [some (.inr (.inr (.inl (76, 277)))), some (.inl a), some (.inl b), some (.inl c), some (.inl ((339 : Int32) + ((35 : Int32) * a)))]) (st' := [.inl b, .inl (((339 : Int32) + ((35 : Int32) * a)) + (3 : Int32)), .inr (.inr (.inl (79, 280)))]) (m' := (f, l)) rfl rfl (fl_bo rfl) rfl ?_
    refine fl_Tq.stp (pc' := 98) (lv' := [some (.inr (.inr (.inl (76, 277)))), some (.inl a), some (.inl b), some (.inl c), some (.inl ((339 : Int32) + ((35 : Int32) * a)))]) (st' := [.inl ((((339 : Int32) + ((35 : Int32) * a)) + (3 : Int32)) + b), .inr (.inr (.inl (79, 280)))]) (m' := (f, l)) rfl rfl (fl_bo rfl) rfl ?_
    refine fl_Tq.ldV (p := 280) (τ := 79) (n := 29780) (z := (0, 0, 0)) (k := 339 + 35 * A + 3 + B) (v := f 280 (339 + 35 * A + 3 + B)) rfl (fl_bo rfl) rfl (t2_ia (t2_ia (t2_mi hA hA1) (by decide +kernel) (by omega)) hB (by omega)) (by omega) rfl ?_
    exact fl_Tq.ret rfl rfl rfl (k h1)
  by_cases h2 : c.toInt = 1
  · refine fl_Tq.swI (k := 1) rfl (fl_bo rfl) h2 rfl rfl ?_
    refine fl_Tq.stp (pc' := 101) (lv' := [some (.inr (.inr (.inl (76, 277)))), some (.inl a), some (.inl b), some (.inl c), some (.inl ((339 : Int32) + ((35 : Int32) * a)))]) (st' := [.inr (.inr (.inl (76, 277)))]) (m' := (f, l)) rfl rfl (fl_bo rfl) rfl ?_
    refine fl_Tq.stp (pc' := 102) (lv' := [some (.inr (.inr (.inl (76, 277)))), some (.inl a), some (.inl b), some (.inl c), some (.inl ((339 : Int32) + ((35 : Int32) * a)))]) (st' := [.inl b, .inr (.inr (.inl (76, 277)))]) (m' := (f, l)) rfl rfl (fl_bo rfl) rfl ?_
    refine fl_Tq.cal rfl rfl (fl_bo rfl) rfl ?_
    refine r_partOf_q hB hB1 (hk B (by omega)) ?_
    show fl_Tq _ 294 105 [some (.inr (.inr (.inl (76, 277)))), some (.inl a), some (.inl b), some (.inl c), some (.inl ((339 : Int32) + ((35 : Int32) * a)))] [.inl (r_partOf_v f b B)] (f, l) _
    refine fl_Tq.stp (pc' := 106) (lv' := [some (.inr (.inr (.inl (76, 277)))), some (.inl a), some (.inl b), some (.inl c), some (.inl ((339 : Int32) + ((35 : Int32) * a)))]) (st' := [.inr (.inr (.inl (76, 277))), .inl (r_partOf_v f b B)]) (m' := (f, l)) rfl rfl (fl_bo rfl) rfl ?_
    refine fl_Tq.stp (pc' := 109) (lv' := [some (.inr (.inr (.inl (76, 277)))), some (.inl a), some (.inl b), some (.inl c), some (.inl ((339 : Int32) + ((35 : Int32) * a)))]) (st' := [.inr (.inr (.inl (79, 280))), .inl (r_partOf_v f b B)]) (m' := (f, l)) rfl rfl (fl_bo rfl) rfl ?_
    refine fl_Tq.stp (pc' := 111) (lv' := [some (.inr (.inr (.inl (76, 277)))), some (.inl a), some (.inl b), some (.inl c), some (.inl ((339 : Int32) + ((35 : Int32) * a)))]) (st' := [.inl ((339 : Int32) + ((35 : Int32) * a)), .inr (.inr (.inl (79, 280))), .inl (r_partOf_v f b B)]) (m' := (f, l)) rfl rfl (fl_bo rfl) rfl ?_
    refine fl_Tq.cI (c := (3 : Int32)) rfl (by decide +kernel) (fl_bo rfl) ?_
    refine fl_Tq.stp (pc' := 113) (lv' := [some (.inr (.inr (.inl (76, 277)))), some (.inl a), some (.inl b), some (.inl c), some (.inl ((339 : Int32) + ((35 : Int32) * a)))]) (st' := [.inl (((339 : Int32) + ((35 : Int32) * a)) + (3 : Int32)), .inr (.inr (.inl (79, 280))), .inl (r_partOf_v f b B)]) (m' := (f, l)) rfl rfl (fl_bo rfl) rfl ?_
    refine fl_Tq.stp (pc' := 114) (lv' := [some (.inr (.inr (.inl (76, 277)))), some (.inl a), some (.inl b), some (.inl c), some (.inl ((339 : Int32) + ((35 : Int32) * a)))]) (st' := [.inl b, .inl (((339 : Int32) + ((35 : Int32) * a)) + (3 : Int32)), .inr (.inr (.inl (79, 280))), .inl (r_partOf_v f b B)]) (m' := (f, l)) rfl rfl (fl_bo rfl) rfl ?_
    refine fl_Tq.stp (pc' := 115) (lv' := [some (.inr (.inr (.inl (76, 277)))), some (.inl a), some (.inl b), some (.inl c), some (.inl ((339 : Int32) + ((35 : Int32) * a)))]) (st' := [.inl ((((339 : Int32) + ((35 : Int32) * a)) + (3 : Int32)) + b), .inr (.inr (.inl (79, 280))), .inl (r_partOf_v f b B)]) (m' := (f, l)) rfl rfl (fl_bo rfl) rfl ?_
    refine fl_Tq.ldV (p := 280) (τ := 79) (n := 29780) (z := (0, 0, 0)) (k := 339 + 35 * A + 3 + B) (v := f 280 (339 + 35 * A + 3 + B)) rfl (fl_bo rfl) rfl (t2_ia (t2_ia (t2_mi hA hA1) (by decide +kernel) (by omega)) hB (by omega)) (by omega) rfl ?_
    refine fl_Tq.stp (pc' := 117) (lv' := [some (.inr (.inr (.inl (76, 277)))), some (.inl a), some (.inl b), some (.inl c), some (.inl ((339 : Int32) + ((35 : Int32) * a)))]) (st' := [.inl ((r_partOf_v f b B) - (f 280 (339 + 35 * A + 3 + B)))]) (m' := (f, l)) rfl rfl (fl_bo rfl) rfl ?_
    exact fl_Tq.ret rfl rfl rfl (k1 h1 h2)
  by_cases h3 : c.toInt = 2
  · refine fl_Tq.swI (k := 2) rfl (fl_bo rfl) h3 rfl rfl ?_
    refine fl_Tq.stp (pc' := 119) (lv' := [some (.inr (.inr (.inl (76, 277)))), some (.inl a), some (.inl b), some (.inl c), some (.inl ((339 : Int32) + ((35 : Int32) * a)))]) (st' := [.inr (.inr (.inl (76, 277)))]) (m' := (f, l)) rfl rfl (fl_bo rfl) rfl ?_
    refine fl_Tq.stp (pc' := 120) (lv' := [some (.inr (.inr (.inl (76, 277)))), some (.inl a), some (.inl b), some (.inl c), some (.inl ((339 : Int32) + ((35 : Int32) * a)))]) (st' := [.inl b, .inr (.inr (.inl (76, 277)))]) (m' := (f, l)) rfl rfl (fl_bo rfl) rfl ?_
    refine fl_Tq.cI (c := (5 : Int32)) rfl (by decide +kernel) (fl_bo rfl) ?_
    refine fl_Tq.cal rfl rfl (fl_bo rfl) rfl ?_
    refine t2_get (C := B) (W := 5) (v := f 280 (444 + 61 * B + 5)) hB (by decide +kernel) hB1 (by decide) rfl ?_
    show fl_Tq _ 294 124 [some (.inr (.inr (.inl (76, 277)))), some (.inl a), some (.inl b), some (.inl c), some (.inl ((339 : Int32) + ((35 : Int32) * a)))] [.inl (f 280 (444 + 61 * B + 5))] (f, l) _
    refine fl_Tq.stp (pc' := 125) (lv' := [some (.inr (.inr (.inl (76, 277)))), some (.inl a), some (.inl b), some (.inl c), some (.inl ((339 : Int32) + ((35 : Int32) * a)))]) (st' := [.inr (.inr (.inl (76, 277))), .inl (f 280 (444 + 61 * B + 5))]) (m' := (f, l)) rfl rfl (fl_bo rfl) rfl ?_
    refine fl_Tq.stp (pc' := 128) (lv' := [some (.inr (.inr (.inl (76, 277)))), some (.inl a), some (.inl b), some (.inl c), some (.inl ((339 : Int32) + ((35 : Int32) * a)))]) (st' := [.inr (.inr (.inl (79, 280))), .inl (f 280 (444 + 61 * B + 5))]) (m' := (f, l)) rfl rfl (fl_bo rfl) rfl ?_
    refine fl_Tq.stp (pc' := 130) (lv' := [some (.inr (.inr (.inl (76, 277)))), some (.inl a), some (.inl b), some (.inl c), some (.inl ((339 : Int32) + ((35 : Int32) * a)))]) (st' := [.inl ((339 : Int32) + ((35 : Int32) * a)), .inr (.inr (.inl (79, 280))), .inl (f 280 (444 + 61 * B + 5))]) (m' := (f, l)) rfl rfl (fl_bo rfl) rfl ?_
    refine fl_Tq.cB (c := (19 : Int32)) rfl (by decide +kernel) (fl_bo rfl) ?_
    refine fl_Tq.stp (pc' := 133) (lv' := [some (.inr (.inr (.inl (76, 277)))), some (.inl a), some (.inl b), some (.inl c), some (.inl ((339 : Int32) + ((35 : Int32) * a)))]) (st' := [.inl (((339 : Int32) + ((35 : Int32) * a)) + (19 : Int32)), .inr (.inr (.inl (79, 280))), .inl (f 280 (444 + 61 * B + 5))]) (m' := (f, l)) rfl rfl (fl_bo rfl) rfl ?_
    refine fl_Tq.stp (pc' := 134) (lv' := [some (.inr (.inr (.inl (76, 277)))), some (.inl a), some (.inl b), some (.inl c), some (.inl ((339 : Int32) + ((35 : Int32) * a)))]) (st' := [.inl b, .inl (((339 : Int32) + ((35 : Int32) * a)) + (19 : Int32)), .inr (.inr (.inl (79, 280))), .inl (f 280 (444 + 61 * B + 5))]) (m' := (f, l)) rfl rfl (fl_bo rfl) rfl ?_
    refine fl_Tq.stp (pc' := 135) (lv' := [some (.inr (.inr (.inl (76, 277)))), some (.inl a), some (.inl b), some (.inl c), some (.inl ((339 : Int32) + ((35 : Int32) * a)))]) (st' := [.inl ((((339 : Int32) + ((35 : Int32) * a)) + (19 : Int32)) + b), .inr (.inr (.inl (79, 280))), .inl (f 280 (444 + 61 * B + 5))]) (m' := (f, l)) rfl rfl (fl_bo rfl) rfl ?_
    refine fl_Tq.ldV (p := 280) (τ := 79) (n := 29780) (z := (0, 0, 0)) (k := 339 + 35 * A + 19 + B) (v := f 280 (339 + 35 * A + 19 + B)) rfl (fl_bo rfl) rfl (t2_ia (t2_ia (t2_mi hA hA1) (by decide +kernel) (by omega)) hB (by omega)) (by omega) rfl ?_
    refine fl_Tq.stp (pc' := 137) (lv' := [some (.inr (.inr (.inl (76, 277)))), some (.inl a), some (.inl b), some (.inl c), some (.inl ((339 : Int32) + ((35 : Int32) * a)))]) (st' := [.inl ((f 280 (444 + 61 * B + 5)) - (f 280 (339 + 35 * A + 19 + B)))]) (m' := (f, l)) rfl rfl (fl_bo rfl) rfl ?_
    exact fl_Tq.ret rfl rfl rfl (k2 h1 h2 h3)
  by_cases h4 : c.toInt = 3
  · refine fl_Tq.swI (k := 3) rfl (fl_bo rfl) h4 rfl rfl ?_
    refine fl_Tq.stp (pc' := 139) (lv' := [some (.inr (.inr (.inl (76, 277)))), some (.inl a), some (.inl b), some (.inl c), some (.inl ((339 : Int32) + ((35 : Int32) * a)))]) (st' := [.inr (.inr (.inl (76, 277)))]) (m' := (f, l)) rfl rfl (fl_bo rfl) rfl ?_
    refine fl_Tq.stp (pc' := 142) (lv' := [some (.inr (.inr (.inl (76, 277)))), some (.inl a), some (.inl b), some (.inl c), some (.inl ((339 : Int32) + ((35 : Int32) * a)))]) (st' := [.inr (.inr (.inl (79, 280)))]) (m' := (f, l)) rfl rfl (fl_bo rfl) rfl ?_
    refine fl_Tq.cB (c := (7 : Int32)) rfl (by decide +kernel) (fl_bo rfl) ?_
    refine fl_Tq.ldV (p := 280) (τ := 79) (n := 29780) (z := (0, 0, 0)) (k := 7) (v := f 280 7) rfl (fl_bo rfl) rfl (by decide +kernel) (by decide) rfl ?_
    refine fl_Tq.stp (pc' := 146) (lv' := [some (.inr (.inr (.inl (76, 277)))), some (.inl a), some (.inl b), some (.inl c), some (.inl ((339 : Int32) + ((35 : Int32) * a)))]) (st' := [.inr (.inr (.inl (76, 277))), .inl (f 280 7)]) (m' := (f, l)) rfl rfl (fl_bo rfl) rfl ?_
    refine fl_Tq.stp (pc' := 149) (lv' := [some (.inr (.inr (.inl (76, 277)))), some (.inl a), some (.inl b), some (.inl c), some (.inl ((339 : Int32) + ((35 : Int32) * a)))]) (st' := [.inr (.inr (.inl (79, 280))), .inl (f 280 7)]) (m' := (f, l)) rfl rfl (fl_bo rfl) rfl ?_
    refine fl_Tq.stp (pc' := 151) (lv' := [some (.inr (.inr (.inl (76, 277)))), some (.inl a), some (.inl b), some (.inl c), some (.inl ((339 : Int32) + ((35 : Int32) * a)))]) (st' := [.inl ((339 : Int32) + ((35 : Int32) * a)), .inr (.inr (.inl (79, 280))), .inl (f 280 7)]) (m' := (f, l)) rfl rfl (fl_bo rfl) rfl ?_
    refine fl_Tq.cI (c := (1 : Int32)) rfl (by decide +kernel) (fl_bo rfl) ?_
    refine fl_Tq.stp (pc' := 153) (lv' := [some (.inr (.inr (.inl (76, 277)))), some (.inl a), some (.inl b), some (.inl c), some (.inl ((339 : Int32) + ((35 : Int32) * a)))]) (st' := [.inl (((339 : Int32) + ((35 : Int32) * a)) + (1 : Int32)), .inr (.inr (.inl (79, 280))), .inl (f 280 7)]) (m' := (f, l)) rfl rfl (fl_bo rfl) rfl ?_
    refine fl_Tq.ldV (p := 280) (τ := 79) (n := 29780) (z := (0, 0, 0)) (k := 339 + 35 * A + 1) (v := f 280 (339 + 35 * A + 1)) rfl (fl_bo rfl) rfl (t2_ia (t2_mi hA hA1) (by decide +kernel) (by omega)) (by omega) rfl ?_
    refine fl_Tq.stp (pc' := 155) (lv' := [some (.inr (.inr (.inl (76, 277)))), some (.inl a), some (.inl b), some (.inl c), some (.inl ((339 : Int32) + ((35 : Int32) * a)))]) (st' := [.inl ((f 280 7) - (f 280 (339 + 35 * A + 1)))]) (m' := (f, l)) rfl rfl (fl_bo rfl) rfl ?_
    exact fl_Tq.ret rfl rfl rfl (k3 h1 h2 h3 h4)
  refine fl_Tq.swD rfl (fl_bo rfl) (by omega) rfl ?_
  refine fl_Tq.stp (pc' := 159) (lv' := [some (.inr (.inr (.inl (76, 277)))), some (.inl a), some (.inl b), some (.inl c), some (.inl ((339 : Int32) + ((35 : Int32) * a)))]) (st' := [.inl (-1000000000 : Int32)]) (m' := (f, l)) rfl rfl (fl_bo rfl) rfl ?_
  exact fl_Tq.ret rfl rfl rfl (k4 h1 h2 h3 h4)
/-! ===== since, on both sides ===== -/
theorem t2_cmp_34 {L : Nat} {xs : Nat → Int32} {f : t2_F} {l : t2_L} {a b c : Int32} (_hall : ∀ c ∈ at_CM ++ at_CA, at_Valid at_XI (pw_P L xs) c) (hg : t2_Z (f, l)) : fl_Tq (pw_P L xs) 135 0 (fl_args (am_mxl (pw_P L xs) 135) [lx_x, .inl a, .inl b, .inl c]) [] (f, l) (t2_End L xs 294 [at_this, .inl a, .inl b, .inl c]) := by
  have I : c0_I f f := hg.2.1
  have c0 : (0 : Int32).toInt = 0 := rfl
  have c2 : (2 : Int32).toInt = 2 := by decide +kernel
  have e5 : f 1 5 = f 280 2 := I.1.1.1
  have n16 := I.rhu.1
  have n5 : 0 ≤ (f 1 5).toInt ∧ (f 1 5).toInt ≤ 16 := I.hc
  by_cases ha : 0 ≤ a.toInt ∧ a.toInt ≤ 2
  case neg =>
    refine t2_qq (y := (-1000000000 : Int32)) hg (fun Q k => ?_) (fun Q k => ?_)
    · show fl_Tq (pw_P L xs) 135 0 [some (.inr (.inr (.inl (0, 0)))), some (.inl a), some (.inl b), some (.inl c), none] [] (f, l) Q
      refine x_since_A (fun _ => k) (fun _ _ => k) (fun h1 _ => ?_)
      rw [t2_w0, c0, c2, Classical.not_not] at h1
      exact absurd h1 ha
    · show fl_Tq (pw_P L xs) 294 0 [some (.inr (.inr (.inl (76, 277)))), some (.inl a), some (.inl b), some (.inl c), none] [] (f, l) Q
      refine y_since_A (fun _ => k) (fun h1 => ?_)
      rw [r_i0, c0, c2, Classical.not_not] at h1
      exact absurd h1 ha
  obtain ⟨A, hA⟩ := t2_nat ha.1
  have hA1 : A < 3 := by omega
  obtain ⟨mc, m16, m1, mw⟩ := I.2.2.1.2.2.2 A hA1
  have am : (f 280 (339 + 35 * A + 2)).toInt ≤ (f 280 2).toInt := by
    have h := (hg.1.AK).2.2 A hA1
    rw [show 339 + 35 * A + 2 = 341 + 35 * A by omega]
    exact h
  have ed : (f 280 (339 + 35 * A + 2) - (1 : Int32)).toInt = (f 280 (339 + 35 * A + 2)).toInt - 1 := t2_dec (by omega)
  by_cases hb : 0 ≤ b.toInt ∧ b.toInt < (f 280 (339 + 35 * A + 2)).toInt
  case neg =>
    refine t2_qq (y := (-1000000000 : Int32)) hg (fun Q k => ?_) (fun Q k => ?_)
    · show fl_Tq (pw_P L xs) 135 0 [some (.inr (.inr (.inl (0, 0)))), some (.inl a), some (.inl b), some (.inl c), none] [] (f, l) Q
      refine x_since_A (fun _ => k) (fun _ _ => k) (fun _ h1 => x_since_B hA hA1 (fun h2 => ?_) (fun _ => k))
      rw [t2_isc n5, Classical.not_not] at h1
      rw [mc] at h2
      exact absurd ⟨h1.1, h2⟩ hb
    · show fl_Tq (pw_P L xs) 294 0 [some (.inr (.inr (.inl (76, 277)))), some (.inl a), some (.inl b), some (.inl c), none] [] (f, l) Q
      refine y_since_A (fun _ => k) (fun _ => y_since_B hA hA1 (fun _ => k) (fun _ _ => k) (fun _ h1 => ?_))
      rw [r_i0, c0, ed, Classical.not_not] at h1
      exact absurd ⟨h1.1, by omega⟩ hb
  obtain ⟨B, hB⟩ := t2_nat hb.1
  have hB1 : B < 16 := by omega
  obtain ⟨m2, m3⟩ := m1 (by omega)
  obtain ⟨p1, p2⟩ := mw B (by omega)
  have H : ∀ y : Int32, (∀ Q : Option fl_V → fl_M → Prop, Q (some (.inl y)) (f, l) → fl_Tq (pw_P L xs) 135 39 [some (.inr (.inr (.inl (0, 0)))), some (.inl a), some (.inl b), some (.inl c), none] [] (f, l) Q) → (∀ Q : Option fl_V → fl_M → Prop, Q (some (.inl y)) (f, l) → fl_Tq (pw_P L xs) 294 56 [some (.inr (.inr (.inl (76, 277)))), some (.inl a), some (.inl b), some (.inl c), some (.inl ((339 : Int32) + ((35 : Int32) * a)))] [] (f, l) Q) → fl_Tq (pw_P L xs) 135 0 (fl_args (am_mxl (pw_P L xs) 135) [lx_x, .inl a, .inl b, .inl c]) [] (f, l) (t2_End L xs 294 [at_this, .inl a, .inl b, .inl c]) := fun y h1 h2 => by
    refine t2_qq (y := y) hg (fun Q k => ?_) (fun Q k => ?_)
    · show fl_Tq (pw_P L xs) 135 0 [some (.inr (.inr (.inl (0, 0)))), some (.inl a), some (.inl b), some (.inl c), none] [] (f, l) Q
      refine x_since_A (fun h3 => ?_) (fun _ h3 => ?_) (fun _ _ => x_since_B hA hA1 (fun _ => h1 Q k) (fun h3 => ?_))
      · rw [t2_w0, c0, c2] at h3
        exact absurd ha h3
      · rw [t2_isc n5, e5] at h3
        exact absurd ⟨hb.1, by omega⟩ h3
      · rw [mc] at h3
        exact absurd hb.2 h3
    · show fl_Tq (pw_P L xs) 294 0 [some (.inr (.inr (.inl (76, 277)))), some (.inl a), some (.inl b), some (.inl c), none] [] (f, l) Q
      refine y_since_A (fun h3 => ?_) (fun _ => y_since_B hA hA1 (fun h3 => ?_) (fun _ h3 => ?_) (fun _ _ => h2 Q k))
      · rw [r_i0, c0, c2] at h3
        exact absurd ha h3
      · rw [m2] at h3
        exact absurd h3 (by decide +kernel)
      · rw [r_i0, c0, ed] at h3
        exact absurd ⟨hb.1, by omega⟩ h3
  have hBn : (B : Int) < (f 280 2).toInt := by omega
  have XC := fun (Q : Option fl_V → fl_M → Prop) => @x_since_C L xs f l Q a b c A B hA hA1 hB hB1
  have YC := fun (Q : Option fl_V → fl_M → Prop) => @y_since_C L xs f l Q a b c A B hA hA1 hB hB1 hBn I.rhu.2
  have e3 : f (18 + 4 * B) 3 = r_partOf_v f b B := I.part (by omega) b
  have e9 : f (18 + 4 * B) 9 = f 280 (444 + 61 * B + 5) := (I.cell (C := B) (by omega)).1.1.2.2.2.2.1
  have e6 : f 1 6 = f 280 7 := I.1.1.2.1
  by_cases h0 : c.toInt = 0
  · exact H (f 280 (339 + 35 * A + 3 + B)) (fun Q k => XC Q (fun _ => by rw [p1]; exact k) (fun h => absurd h0 h) (fun h => absurd h0 h) (fun h => absurd h0 h) (fun h => absurd h0 h)) (fun Q k => YC Q (fun _ => k) (fun h => absurd h0 h) (fun h => absurd h0 h) (fun h => absurd h0 h) (fun h => absurd h0 h))
  by_cases h1 : c.toInt = 1
  · exact H (r_partOf_v f b B - f 280 (339 + 35 * A + 3 + B)) (fun Q k => XC Q (fun h => absurd h h0) (fun _ _ => by rw [p1, e3]; exact k) (fun _ h => absurd h1 h) (fun _ h => absurd h1 h) (fun _ h => absurd h1 h)) (fun Q k => YC Q (fun h => absurd h h0) (fun _ _ => k) (fun _ h => absurd h1 h) (fun _ h => absurd h1 h) (fun _ h => absurd h1 h))
  by_cases h2 : c.toInt = 2
  · exact H (f 280 (444 + 61 * B + 5) - f 280 (339 + 35 * A + 19 + B)) (fun Q k => XC Q (fun h => absurd h h0) (fun _ h => absurd h h1) (fun _ _ _ => by rw [p2, e9]; exact k) (fun _ _ h => absurd h2 h) (fun _ _ h => absurd h2 h)) (fun Q k => YC Q (fun h => absurd h h0) (fun _ h => absurd h h1) (fun _ _ _ => k) (fun _ _ h => absurd h2 h) (fun _ _ h => absurd h2 h))
  by_cases h3 : c.toInt = 3
  · exact H (f 280 7 - f 280 (339 + 35 * A + 1)) (fun Q k => XC Q (fun h => absurd h h0) (fun _ h => absurd h h1) (fun _ _ h => absurd h h2) (fun _ _ _ _ => by rw [m3, e6]; exact k) (fun _ _ _ h => absurd h3 h)) (fun Q k => YC Q (fun h => absurd h h0) (fun _ h => absurd h h1) (fun _ _ h => absurd h h2) (fun _ _ _ _ => k) (fun _ _ _ h => absurd h3 h))
  exact H (-1000000000 : Int32) (fun Q k => XC Q (fun h => absurd h h0) (fun _ h => absurd h h1) (fun _ _ h => absurd h h2) (fun _ _ _ h => absurd h h3) (fun _ _ _ _ => k)) (fun Q k => YC Q (fun h => absurd h h0) (fun _ h => absurd h h1) (fun _ _ h => absurd h h2) (fun _ _ _ h => absurd h h3) (fun _ _ _ _ => k))

end

/-! 95.05.13p35.lean.txt -/
section
theorem y_rank_A_p35 {L : Nat} {xs : Nat → Int32} {f : t2_F} {l : t2_L} {Q : Option fl_V → fl_M → Prop} {a : Int32}  (k : fl_Tq (pw_P L xs) 295 2 [some (.inr (.inr (.inl (76, 277)))), some (.inl a), some (.inl (0 : Int32)), none, none] [] (f, l) Q) : fl_Tq (pw_P L xs) 295 0 [some (.inr (.inr (.inl (76, 277)))), some (.inl a), none, none, none] [] (f, l) Q := by
  refine fl_Tq.cI (c := (0 : Int32)) rfl (by decide +kernel) (fl_bo rfl) ?_
  refine fl_Tq.stp (pc' := 2) (lv' := [some (.inr (.inr (.inl (76, 277)))), some (.inl a), some (.inl (0 : Int32)), none, none]) (st' := []) (m' := (f, l)) rfl rfl (fl_bo rfl) rfl ?_
  exact k
noncomputable def y_rank_B_a17_p35 (f : t2_F) (a : Int32) (E : Nat) : Nat → Int32
  | 0 => (0 : Int32)
  | k17 + 1 => (y_rank_B_a17_p35 f a E k17) + (if (r_partOf_v f (Int32.ofNat E) E).toInt < (r_partOf_v f (Int32.ofNat k17) k17).toInt then (1 : Int32) else (if (r_partOf_v f (Int32.ofNat k17) k17).toInt = (r_partOf_v f (Int32.ofNat E) E).toInt then (if (Int32.ofNat k17).toInt < (Int32.ofNat E).toInt then (1 : Int32) else (0 : Int32)) else (0 : Int32)))
theorem y_rank_B_p35 {L : Nat} {xs : Nat → Int32} {f : t2_F} {l : t2_L} {Q : Option fl_V → fl_M → Prop} {a : Int32} {E : Nat} (hC : E < 16) (hCn : (E : Int) < (f 280 2).toInt) (hn : 0 ≤ (f 280 2).toInt ∧ (f 280 2).toInt ≤ 16) (hk : ∀ C : Nat, (C : Int) < (f 280 2).toInt → t2_ck f C) (hkk : (Int32.ofNat E).toInt < (f 280 2).toInt) (k : fl_Tq (pw_P L xs) 295 76 [some (.inr (.inr (.inl (76, 277)))), some (.inl a), some (.inl (Int32.ofNat E)), some (.inl (y_rank_B_a17_p35 f a E ((f 280 2).toInt.toNat))), some (.inl (Int32.ofNat ((f 280 2).toInt.toNat)))] [] (f, l) Q) : fl_Tq (pw_P L xs) 295 2 [some (.inr (.inr (.inl (76, 277)))), some (.inl a), some (.inl (Int32.ofNat E)), none, none] [] (f, l) Q := by
  refine fl_Tq.stp (pc' := 3) (lv' := [some (.inr (.inr (.inl (76, 277)))), some (.inl a), some (.inl (Int32.ofNat E)), none, none]) (st' := [.inl (Int32.ofNat E)]) (m' := (f, l)) rfl rfl (fl_bo rfl) rfl ?_
  refine fl_Tq.stp (pc' := 4) (lv' := [some (.inr (.inr (.inl (76, 277)))), some (.inl a), some (.inl (Int32.ofNat E)), none, none]) (st' := [.inr (.inr (.inl (76, 277))), .inl (Int32.ofNat E)]) (m' := (f, l)) rfl rfl (fl_bo rfl) rfl ?_
  refine fl_Tq.stp (pc' := 7) (lv' := [some (.inr (.inr (.inl (76, 277)))), some (.inl a), some (.inl (Int32.ofNat E)), none, none]) (st' := [.inr (.inr (.inl (79, 280))), .inl (Int32.ofNat E)]) (m' := (f, l)) rfl rfl (fl_bo rfl) rfl ?_
  refine fl_Tq.cI (c := (2 : Int32)) rfl (by decide +kernel) (fl_bo rfl) ?_
  refine fl_Tq.ldV (p := 280) (τ := 79) (n := 29780) (z := (0, 0, 0)) (k := 2) (v := f 280 2) rfl (fl_bo rfl) rfl (by decide +kernel) (by decide) rfl ?_
  refine fl_Tq.jf rfl (fl_bo rfl) (c2_ge_f hkk) rfl ?_
  refine fl_Tq.cI (c := (0 : Int32)) rfl (by decide +kernel) (fl_bo rfl) ?_
  refine fl_Tq.stp (pc' := 14) (lv' := [some (.inr (.inr (.inl (76, 277)))), some (.inl a), some (.inl (Int32.ofNat E)), some (.inl (0 : Int32)), none]) (st' := []) (m' := (f, l)) rfl rfl (fl_bo rfl) rfl ?_
  refine fl_Tq.cI (c := (0 : Int32)) rfl (by decide +kernel) (fl_bo rfl) ?_
  refine fl_Tq.stp (pc' := 17) (lv' := [some (.inr (.inr (.inl (76, 277)))), some (.inl a), some (.inl (Int32.ofNat E)), some (.inl (0 : Int32)), some (.inl (0 : Int32))]) (st' := []) (m' := (f, l)) rfl rfl (fl_bo rfl) rfl ?_
  have hs17 : ∀ k17 : Nat, k17 < (f 280 2).toInt.toNat → fl_Tq (pw_P L xs) 295 17 [some (.inr (.inr (.inl (76, 277)))), some (.inl a), some (.inl (Int32.ofNat E)), some (.inl (y_rank_B_a17_p35 f a E (k17 + 1))), some (.inl (Int32.ofNat (k17 + 1)))] [] (f, l) Q → fl_Tq (pw_P L xs) 295 17 [some (.inr (.inr (.inl (76, 277)))), some (.inl a), some (.inl (Int32.ofNat E)), some (.inl (y_rank_B_a17_p35 f a E k17)), some (.inl (Int32.ofNat k17))] [] (f, l) Q := by
    intro k17 hk17 hS
    refine fl_Tq.stp (pc' := 19) (lv' := [some (.inr (.inr (.inl (76, 277)))), some (.inl a), some (.inl (Int32.ofNat E)), some (.inl (y_rank_B_a17_p35 f a E k17)), some (.inl (Int32.ofNat k17))]) (st' := [.inl (Int32.ofNat k17)]) (m' := (f, l)) rfl rfl (fl_bo rfl) rfl ?_
    refine fl_Tq.stp (pc' := 20) (lv' := [some (.inr (.inr (.inl (76, 277)))), some (.inl a), some (.inl (Int32.ofNat E)), some (.inl (y_rank_B_a17_p35 f a E k17)), some (.inl (Int32.ofNat k17))]) (st' := [.inr (.inr (.inl (76, 277))), .inl (Int32.ofNat k17)]) (m' := (f, l)) rfl rfl (fl_bo rfl) rfl ?_
    refine fl_Tq.stp (pc' := 23) (lv' := [some (.inr (.inr (.inl (76, 277)))), some (.inl a), some (.inl (Int32.ofNat E)), some (.inl (y_rank_B_a17_p35 f a E k17)), some (.inl (Int32.ofNat k17))]) (st' := [.inr (.inr (.inl (79, 280))), .inl (Int32.ofNat k17)]) (m' := (f, l)) rfl rfl (fl_bo rfl) rfl ?_
    refine fl_Tq.cI (c := (2 : Int32)) rfl (by decide +kernel) (fl_bo rfl) ?_
    refine fl_Tq.ldV (p := 280) (τ := 79) (n := 29780) (z := (0, 0, 0)) (k := 2) (v := f 280 2) rfl (fl_bo rfl) rfl (by decide +kernel) (by decide) rfl ?_
    refine fl_Tq.jf rfl (fl_bo rfl) (c2_ge_f (t2_lk hk17 (t2_nn hn.1))) rfl ?_
    refine fl_Tq.stp (pc' := 29) (lv' := [some (.inr (.inr (.inl (76, 277)))), some (.inl a), some (.inl (Int32.ofNat E)), some (.inl (y_rank_B_a17_p35 f a E k17)), some (.inl (Int32.ofNat k17))]) (st' := [.inl (y_rank_B_a17_p35 f a E k17)]) (m' := (f, l)) rfl rfl (fl_bo rfl) rfl ?_
    refine fl_Tq.stp (pc' := 30) (lv' := [some (.inr (.inr (.inl (76, 277)))), some (.inl a), some (.inl (Int32.ofNat E)), some (.inl (y_rank_B_a17_p35 f a E k17)), some (.inl (Int32.ofNat k17))]) (st' := [.inr (.inr (.inl (76, 277))), .inl (y_rank_B_a17_p35 f a E k17)]) (m' := (f, l)) rfl rfl (fl_bo rfl) rfl ?_
    refine fl_Tq.stp (pc' := 32) (lv' := [some (.inr (.inr (.inl (76, 277)))), some (.inl a), some (.inl (Int32.ofNat E)), some (.inl (y_rank_B_a17_p35 f a E k17)), some (.inl (Int32.ofNat k17))]) (st' := [.inl (Int32.ofNat k17), .inr (.inr (.inl (76, 277))), .inl (y_rank_B_a17_p35 f a E k17)]) (m' := (f, l)) rfl rfl (fl_bo rfl) rfl ?_
    refine fl_Tq.cal rfl rfl (fl_bo rfl) rfl ?_
    refine r_partOf_q (at_ofN (by omega)) (by omega) (hk k17 (by omega)) ?_
    show fl_Tq _ 295 35 [some (.inr (.inr (.inl (76, 277)))), some (.inl a), some (.inl (Int32.ofNat E)), some (.inl (y_rank_B_a17_p35 f a E k17)), some (.inl (Int32.ofNat k17))] [.inl (r_partOf_v f (Int32.ofNat k17) k17), .inl (y_rank_B_a17_p35 f a E k17)] (f, l) _
    refine fl_Tq.stp (pc' := 36) (lv' := [some (.inr (.inr (.inl (76, 277)))), some (.inl a), some (.inl (Int32.ofNat E)), some (.inl (y_rank_B_a17_p35 f a E k17)), some (.inl (Int32.ofNat k17))]) (st' := [.inr (.inr (.inl (76, 277))), .inl (r_partOf_v f (Int32.ofNat k17) k17), .inl (y_rank_B_a17_p35 f a E k17)]) (m' := (f, l)) rfl rfl (fl_bo rfl) rfl ?_
    refine fl_Tq.stp (pc' := 37) (lv' := [some (.inr (.inr (.inl (76, 277)))), some (.inl a), some (.inl (Int32.ofNat E)), some (.inl (y_rank_B_a17_p35 f a E k17)), some (.inl (Int32.ofNat k17))]) (st' := [.inl (Int32.ofNat E), .inr (.inr (.inl (76, 277))), .inl (r_partOf_v f (Int32.ofNat k17) k17), .inl (y_rank_B_a17_p35 f a E k17)]) (m' := (f, l)) rfl rfl (fl_bo rfl) rfl ?_
    refine fl_Tq.cal rfl rfl (fl_bo rfl) rfl ?_
    refine r_partOf_q (at_ofN (by omega)) (by omega) (hk E (by omega)) ?_
    show fl_Tq _ 295 40 [some (.inr (.inr (.inl (76, 277)))), some (.inl a), some (.inl (Int32.ofNat E)), some (.inl (y_rank_B_a17_p35 f a E k17)), some (.inl (Int32.ofNat k17))] [.inl (r_partOf_v f (Int32.ofNat E) E), .inl (r_partOf_v f (Int32.ofNat k17) k17), .inl (y_rank_B_a17_p35 f a E k17)] (f, l) _
    have hj190 : fl_Tq (pw_P L xs) 295 68 [some (.inr (.inr (.inl (76, 277)))), some (.inl a), some (.inl (Int32.ofNat E)), some (.inl (y_rank_B_a17_p35 f a E k17)), some (.inl (Int32.ofNat k17))] [.inl (if (r_partOf_v f (Int32.ofNat E) E).toInt < (r_partOf_v f (Int32.ofNat k17) k17).toInt then (1 : Int32) else (if (r_partOf_v f (Int32.ofNat k17) k17).toInt = (r_partOf_v f (Int32.ofNat E) E).toInt then (if (Int32.ofNat k17).toInt < (Int32.ofNat E).toInt then (1 : Int32) else (0 : Int32)) else (0 : Int32))), .inl (y_rank_B_a17_p35 f a E k17)] (f, l) Q → fl_Tq (pw_P L xs) 295 40 [some (.inr (.inr (.inl (76, 277)))), some (.inl a), some (.inl (Int32.ofNat E)), some (.inl (y_rank_B_a17_p35 f a E k17)), some (.inl (Int32.ofNat k17))] [.inl (r_partOf_v f (Int32.ofNat E) E), .inl (r_partOf_v f (Int32.ofNat k17) k17), .inl (y_rank_B_a17_p35 f a E k17)] (f, l) Q := by
      intro hJ
      by_cases h1 : (r_partOf_v f (Int32.ofNat E) E).toInt < (r_partOf_v f (Int32.ofNat k17) k17).toInt
      · refine fl_Tq.jt rfl (fl_bo rfl) (c2_gt_t h1) rfl ?_
        refine fl_Tq.cI (c := (1 : Int32)) rfl (by decide +kernel) (fl_bo rfl) ?_
        refine fl_Tq.stp (pc' := 68) (lv' := [some (.inr (.inr (.inl (76, 277)))), some (.inl a), some (.inl (Int32.ofNat E)), some (.inl (y_rank_B_a17_p35 f a E k17)), some (.inl (Int32.ofNat k17))]) (st' := [.inl (1 : Int32), .inl (y_rank_B_a17_p35 f a E k17)]) (m' := (f, l)) rfl rfl (fl_bo rfl) rfl ?_
        have e0 : (if (r_partOf_v f (Int32.ofNat E) E).toInt < (r_partOf_v f (Int32.ofNat k17) k17).toInt then (1 : Int32) else (if (r_partOf_v f (Int32.ofNat k17) k17).toInt = (r_partOf_v f (Int32.ofNat E) E).toInt then (if (Int32.ofNat k17).toInt < (Int32.ofNat E).toInt then (1 : Int32) else (0 : Int32)) else (0 : Int32))) = (1 : Int32) := by simp only [if_pos h1]
        rw [e0] at hJ
        exact hJ
      · refine fl_Tq.jf rfl (fl_bo rfl) (c2_gt_f h1) rfl ?_
        refine fl_Tq.stp (pc' := 44) (lv' := [some (.inr (.inr (.inl (76, 277)))), some (.inl a), some (.inl (Int32.ofNat E)), some (.inl (y_rank_B_a17_p35 f a E k17)), some (.inl (Int32.ofNat k17))]) (st' := [.inr (.inr (.inl (76, 277))), .inl (y_rank_B_a17_p35 f a E k17)]) (m' := (f, l)) rfl rfl (fl_bo rfl) rfl ?_
        refine fl_Tq.stp (pc' := 46) (lv' := [some (.inr (.inr (.inl (76, 277)))), some (.inl a), some (.inl (Int32.ofNat E)), some (.inl (y_rank_B_a17_p35 f a E k17)), some (.inl (Int32.ofNat k17))]) (st' := [.inl (Int32.ofNat k17), .inr (.inr (.inl (76, 277))), .inl (y_rank_B_a17_p35 f a E k17)]) (m' := (f, l)) rfl rfl (fl_bo rfl) rfl ?_
        refine fl_Tq.cal rfl rfl (fl_bo rfl) rfl ?_
        refine r_partOf_q (at_ofN (by omega)) (by omega) (hk k17 (by omega)) ?_
        show fl_Tq _ 295 49 [some (.inr (.inr (.inl (76, 277)))), some (.inl a), some (.inl (Int32.ofNat E)), some (.inl (y_rank_B_a17_p35 f a E k17)), some (.inl (Int32.ofNat k17))] [.inl (r_partOf_v f (Int32.ofNat k17) k17), .inl (y_rank_B_a17_p35 f a E k17)] (f, l) _
        refine fl_Tq.stp (pc' := 50) (lv' := [some (.inr (.inr (.inl (76, 277)))), some (.inl a), some (.inl (Int32.ofNat E)), some (.inl (y_rank_B_a17_p35 f a E k17)), some (.inl (Int32.ofNat k17))]) (st' := [.inr (.inr (.inl (76, 277))), .inl (r_partOf_v f (Int32.ofNat k17) k17), .inl (y_rank_B_a17_p35 f a E k17)]) (m' := (f, l)) rfl rfl (fl_bo rfl) rfl ?_
        refine fl_Tq.stp (pc' := 51) (lv' := [some (.inr (.inr (.inl (76, 277)))), some (.inl a), some (.inl (Int32.ofNat E)), some (.inl (y_rank_B_a17_p35 f a E k17)), some (.inl (Int32.ofNat k17))]) (st' := [.inl (Int32.ofNat E), .inr (.inr (.inl (76, 277))), .inl (r_partOf_v f (Int32.ofNat k17) k17), .inl (y_rank_B_a17_p35 f a E k17)]) (m' := (f, l)) rfl rfl (fl_bo rfl) rfl ?_
        refine fl_Tq.cal rfl rfl (fl_bo rfl) rfl ?_
        refine r_partOf_q (at_ofN (by omega)) (by omega) (hk E (by omega)) ?_
        show fl_Tq _ 295 54 [some (.inr (.inr (.inl (76, 277)))), some (.inl a), some (.inl (Int32.ofNat E)), some (.inl (y_rank_B_a17_p35 f a E k17)), some (.inl (Int32.ofNat k17))] [.inl (r_partOf_v f (Int32.ofNat E) E), .inl (r_partOf_v f (Int32.ofNat k17) k17), .inl (y_rank_B_a17_p35 f a E k17)] (f, l) _
        by_cases h2 : (r_partOf_v f (Int32.ofNat k17) k17).toInt = (r_partOf_v f (Int32.ofNat E) E).toInt
        · refine fl_Tq.jf rfl (fl_bo rfl) (c2_ne_f h2) rfl ?_
          refine fl_Tq.stp (pc' := 59) (lv' := [some (.inr (.inr (.inl (76, 277)))), some (.inl a), some (.inl (Int32.ofNat E)), some (.inl (y_rank_B_a17_p35 f a E k17)), some (.inl (Int32.ofNat k17))]) (st' := [.inl (Int32.ofNat k17), .inl (y_rank_B_a17_p35 f a E k17)]) (m' := (f, l)) rfl rfl (fl_bo rfl) rfl ?_
          refine fl_Tq.stp (pc' := 60) (lv' := [some (.inr (.inr (.inl (76, 277)))), some (.inl a), some (.inl (Int32.ofNat E)), some (.inl (y_rank_B_a17_p35 f a E k17)), some (.inl (Int32.ofNat k17))]) (st' := [.inl (Int32.ofNat E), .inl (Int32.ofNat k17), .inl (y_rank_B_a17_p35 f a E k17)]) (m' := (f, l)) rfl rfl (fl_bo rfl) rfl ?_
          by_cases h3 : (Int32.ofNat k17).toInt < (Int32.ofNat E).toInt
          · refine fl_Tq.jf rfl (fl_bo rfl) (c2_ge_f h3) rfl ?_
            refine fl_Tq.cI (c := (1 : Int32)) rfl (by decide +kernel) (fl_bo rfl) ?_
            refine fl_Tq.stp (pc' := 68) (lv' := [some (.inr (.inr (.inl (76, 277)))), some (.inl a), some (.inl (Int32.ofNat E)), some (.inl (y_rank_B_a17_p35 f a E k17)), some (.inl (Int32.ofNat k17))]) (st' := [.inl (1 : Int32), .inl (y_rank_B_a17_p35 f a E k17)]) (m' := (f, l)) rfl rfl (fl_bo rfl) rfl ?_
            have e0 : (if (r_partOf_v f (Int32.ofNat E) E).toInt < (r_partOf_v f (Int32.ofNat k17) k17).toInt then (1 : Int32) else (if (r_partOf_v f (Int32.ofNat k17) k17).toInt = (r_partOf_v f (Int32.ofNat E) E).toInt then (if (Int32.ofNat k17).toInt < (Int32.ofNat E).toInt then (1 : Int32) else (0 : Int32)) else (0 : Int32))) = (1 : Int32) := by simp only [if_neg h1, if_pos h2, if_pos h3]
            rw [e0] at hJ
            exact hJ
          · refine fl_Tq.jt rfl (fl_bo rfl) (c2_ge_t h3) rfl ?_
            refine fl_Tq.cI (c := (0 : Int32)) rfl (by decide +kernel) (fl_bo rfl) ?_
            have e0 : (if (r_partOf_v f (Int32.ofNat E) E).toInt < (r_partOf_v f (Int32.ofNat k17) k17).toInt then (1 : Int32) else (if (r_partOf_v f (Int32.ofNat k17) k17).toInt = (r_partOf_v f (Int32.ofNat E) E).toInt then (if (Int32.ofNat k17).toInt < (Int32.ofNat E).toInt then (1 : Int32) else (0 : Int32)) else (0 : Int32))) = (0 : Int32) := by simp only [if_neg h1, if_pos h2, if_neg h3]
            rw [e0] at hJ
            exact hJ
        · refine fl_Tq.jt rfl (fl_bo rfl) (c2_ne_t h2) rfl ?_
          refine fl_Tq.cI (c := (0 : Int32)) rfl (by decide +kernel) (fl_bo rfl) ?_
          have e0 : (if (r_partOf_v f (Int32.ofNat E) E).toInt < (r_partOf_v f (Int32.ofNat k17) k17).toInt then (1 : Int32) else (if (r_partOf_v f (Int32.ofNat k17) k17).toInt = (r_partOf_v f (Int32.ofNat E) E).toInt then (if (Int32.ofNat k17).toInt < (Int32.ofNat E).toInt then (1 : Int32) else (0 : Int32)) else (0 : Int32))) = (0 : Int32) := by simp only [if_neg h1, if_neg h2]
          rw [e0] at hJ
          exact hJ
    refine hj190 ?_
    show fl_Tq _ 295 68 [some (.inr (.inr (.inl (76, 277)))), some (.inl a), some (.inl (Int32.ofNat E)), some (.inl (y_rank_B_a17_p35 f a E k17)), some (.inl (Int32.ofNat k17))] [.inl (if (r_partOf_v f (Int32.ofNat E) E).toInt < (r_partOf_v f (Int32.ofNat k17) k17).toInt then (1 : Int32) else (if (r_partOf_v f (Int32.ofNat k17) k17).toInt = (r_partOf_v f (Int32.ofNat E) E).toInt then (if (Int32.ofNat k17).toInt < (Int32.ofNat E).toInt then (1 : Int32) else (0 : Int32)) else (0 : Int32))), .inl (y_rank_B_a17_p35 f a E k17)] (f, l) _
    refine fl_Tq.stp (pc' := 69) (lv' := [some (.inr (.inr (.inl (76, 277)))), some (.inl a), some (.inl (Int32.ofNat E)), some (.inl (y_rank_B_a17_p35 f a E k17)), some (.inl (Int32.ofNat k17))]) (st' := [.inl ((y_rank_B_a17_p35 f a E k17) + (if (r_partOf_v f (Int32.ofNat E) E).toInt < (r_partOf_v f (Int32.ofNat k17) k17).toInt then (1 : Int32) else (if (r_partOf_v f (Int32.ofNat k17) k17).toInt = (r_partOf_v f (Int32.ofNat E) E).toInt then (if (Int32.ofNat k17).toInt < (Int32.ofNat E).toInt then (1 : Int32) else (0 : Int32)) else (0 : Int32))))]) (m' := (f, l)) rfl rfl (fl_bo rfl) rfl ?_
    refine fl_Tq.stp (pc' := 70) (lv' := [some (.inr (.inr (.inl (76, 277)))), some (.inl a), some (.inl (Int32.ofNat E)), some (.inl ((y_rank_B_a17_p35 f a E k17) + (if (r_partOf_v f (Int32.ofNat E) E).toInt < (r_partOf_v f (Int32.ofNat k17) k17).toInt then (1 : Int32) else (if (r_partOf_v f (Int32.ofNat k17) k17).toInt = (r_partOf_v f (Int32.ofNat E) E).toInt then (if (Int32.ofNat k17).toInt < (Int32.ofNat E).toInt then (1 : Int32) else (0 : Int32)) else (0 : Int32))))), some (.inl (Int32.ofNat k17))]) (st' := []) (m' := (f, l)) rfl rfl (fl_bo rfl) rfl ?_
    refine fl_Tq.stp (pc' := 73) (lv' := [some (.inr (.inr (.inl (76, 277)))), some (.inl a), some (.inl (Int32.ofNat E)), some (.inl ((y_rank_B_a17_p35 f a E k17) + (if (r_partOf_v f (Int32.ofNat E) E).toInt < (r_partOf_v f (Int32.ofNat k17) k17).toInt then (1 : Int32) else (if (r_partOf_v f (Int32.ofNat k17) k17).toInt = (r_partOf_v f (Int32.ofNat E) E).toInt then (if (Int32.ofNat k17).toInt < (Int32.ofNat E).toInt then (1 : Int32) else (0 : Int32)) else (0 : Int32))))), some (.inl ((Int32.ofNat k17) + (1 : Int32)))]) (st' := []) (m' := (f, l)) rfl rfl (fl_bo rfl) rfl ?_
    refine fl_Tq.stp (pc' := 17) (lv' := [some (.inr (.inr (.inl (76, 277)))), some (.inl a), some (.inl (Int32.ofNat E)), some (.inl ((y_rank_B_a17_p35 f a E k17) + (if (r_partOf_v f (Int32.ofNat E) E).toInt < (r_partOf_v f (Int32.ofNat k17) k17).toInt then (1 : Int32) else (if (r_partOf_v f (Int32.ofNat k17) k17).toInt = (r_partOf_v f (Int32.ofNat E) E).toInt then (if (Int32.ofNat k17).toInt < (Int32.ofNat E).toInt then (1 : Int32) else (0 : Int32)) else (0 : Int32))))), some (.inl ((Int32.ofNat k17) + (1 : Int32)))]) (st' := []) (m' := (f, l)) rfl rfl (fl_bo rfl) rfl ?_
    have ea : y_rank_B_a17_p35 f a E (k17 + 1) = (y_rank_B_a17_p35 f a E k17) + (if (r_partOf_v f (Int32.ofNat E) E).toInt < (r_partOf_v f (Int32.ofNat k17) k17).toInt then (1 : Int32) else (if (r_partOf_v f (Int32.ofNat k17) k17).toInt = (r_partOf_v f (Int32.ofNat E) E).toInt then (if (Int32.ofNat k17).toInt < (Int32.ofNat E).toInt then (1 : Int32) else (0 : Int32)) else (0 : Int32))) := by
      show ((y_rank_B_a17_p35 f a E k17) + (if (r_partOf_v f (Int32.ofNat E) E).toInt < (r_partOf_v f (Int32.ofNat k17) k17).toInt then (1 : Int32) else (if (r_partOf_v f (Int32.ofNat k17) k17).toInt = (r_partOf_v f (Int32.ofNat E) E).toInt then (if (Int32.ofNat k17).toInt < (Int32.ofNat E).toInt then (1 : Int32) else (0 : Int32)) else (0 : Int32)))) = _
      rfl
    rw [ea, ← t2_k1] at hS
    exact hS
  refine t2_for (S := fun k17 => fl_Tq (pw_P L xs) 295 17 [some (.inr (.inr (.inl (76, 277)))), some (.inl a), some (.inl (Int32.ofNat E)), some (.inl (y_rank_B_a17_p35 f a E k17)), some (.inl (Int32.ofNat k17))] [] (f, l) Q) hs17 ?_
  show fl_Tq (pw_P L xs) 295 17 [some (.inr (.inr (.inl (76, 277)))), some (.inl a), some (.inl (Int32.ofNat E)), some (.inl (y_rank_B_a17_p35 f a E ((f 280 2).toInt.toNat))), some (.inl (Int32.ofNat ((f 280 2).toInt.toNat)))] [] (f, l) _
  refine fl_Tq.stp (pc' := 19) (lv' := [some (.inr (.inr (.inl (76, 277)))), some (.inl a), some (.inl (Int32.ofNat E)), some (.inl (y_rank_B_a17_p35 f a E ((f 280 2).toInt.toNat))), some (.inl (Int32.ofNat ((f 280 2).toInt.toNat)))]) (st' := [.inl (Int32.ofNat ((f 280 2).toInt.toNat))]) (m' := (f, l)) rfl rfl (fl_bo rfl) rfl ?_
  refine fl_Tq.stp (pc' := 20) (lv' := [some (.inr (.inr (.inl (76, 277)))), some (.inl a), some (.inl (Int32.ofNat E)), some (.inl (y_rank_B_a17_p35 f a E ((f 280 2).toInt.toNat))), some (.inl (Int32.ofNat ((f 280 2).toInt.toNat)))]) (st' := [.inr (.inr (.inl (76, 277))), .inl (Int32.ofNat ((f 280 2).toInt.toNat))]) (m' := (f, l)) rfl rfl (fl_bo rfl) rfl ?_
  refine fl_Tq.stp (pc' := 23) (lv' := [some (.inr (.inr (.inl (76, 277)))), some (.inl a), some (.inl (Int32.ofNat E)), some (.inl (y_rank_B_a17_p35 f a E ((f 280 2).toInt.toNat))), some (.inl (Int32.ofNat ((f 280 2).toInt.toNat)))]) (st' := [.inr (.inr (.inl (79, 280))), .inl (Int32.ofNat ((f 280 2).toInt.toNat))]) (m' := (f, l)) rfl rfl (fl_bo rfl) rfl ?_
  refine fl_Tq.cI (c := (2 : Int32)) rfl (by decide +kernel) (fl_bo rfl) ?_
  refine fl_Tq.ldV (p := 280) (τ := 79) (n := 29780) (z := (0, 0, 0)) (k := 2) (v := f 280 2) rfl (fl_bo rfl) rfl (by decide +kernel) (by decide) rfl ?_
  refine fl_Tq.jt rfl (fl_bo rfl) (c2_ge_t (t2_ln (t2_nn hn.1))) rfl ?_
  exact k
theorem y_rank_C_p35 {L : Nat} {xs : Nat → Int32} {f : t2_F} {l : t2_L} {Q : Option fl_V → fl_M → Prop} {a z y : Int32} {E : Nat}  (k : (z.toInt = a.toInt) → Q (some (.inl (Int32.ofNat E))) (f, l)) (k1 : (¬ (z.toInt = a.toInt)) → fl_Tq (pw_P L xs) 295 2 [some (.inr (.inr (.inl (76, 277)))), some (.inl a), some (.inl ((Int32.ofNat E) + (1 : Int32))), some (.inl z), some (.inl y)] [] (f, l) Q) : fl_Tq (pw_P L xs) 295 76 [some (.inr (.inr (.inl (76, 277)))), some (.inl a), some (.inl (Int32.ofNat E)), some (.inl z), some (.inl y)] [] (f, l) Q := by
  refine fl_Tq.stp (pc' := 77) (lv' := [some (.inr (.inr (.inl (76, 277)))), some (.inl a), some (.inl (Int32.ofNat E)), some (.inl z), some (.inl y)]) (st' := [.inl z]) (m' := (f, l)) rfl rfl (fl_bo rfl) rfl ?_
  refine fl_Tq.stp (pc' := 78) (lv' := [some (.inr (.inr (.inl (76, 277)))), some (.inl a), some (.inl (Int32.ofNat E)), some (.inl z), some (.inl y)]) (st' := [.inl a, .inl z]) (m' := (f, l)) rfl rfl (fl_bo rfl) rfl ?_
  by_cases h1 : z.toInt = a.toInt
  · refine fl_Tq.jf rfl (fl_bo rfl) (c2_ne_f h1) rfl ?_
    refine fl_Tq.stp (pc' := 82) (lv' := [some (.inr (.inr (.inl (76, 277)))), some (.inl a), some (.inl (Int32.ofNat E)), some (.inl z), some (.inl y)]) (st' := [.inl (Int32.ofNat E)]) (m' := (f, l)) rfl rfl (fl_bo rfl) rfl ?_
    exact fl_Tq.ret rfl rfl rfl (k h1)
  · refine fl_Tq.jt rfl (fl_bo rfl) (c2_ne_t h1) rfl ?_
    refine fl_Tq.stp (pc' := 86) (lv' := [some (.inr (.inr (.inl (76, 277)))), some (.inl a), some (.inl ((Int32.ofNat E) + (1 : Int32))), some (.inl z), some (.inl y)]) (st' := []) (m' := (f, l)) rfl rfl (fl_bo rfl) rfl ?_
    refine fl_Tq.stp (pc' := 2) (lv' := [some (.inr (.inr (.inl (76, 277)))), some (.inl a), some (.inl ((Int32.ofNat E) + (1 : Int32))), some (.inl z), some (.inl y)]) (st' := []) (m' := (f, l)) rfl rfl (fl_bo rfl) rfl ?_
    exact k1 h1
theorem y_rank_D_p35 {L : Nat} {xs : Nat → Int32} {f : t2_F} {l : t2_L} {Q : Option fl_V → fl_M → Prop} {a : Int32} {E : Nat} (hkk : ¬ ((Int32.ofNat E).toInt < (f 280 2).toInt)) (k : Q (some (.inl (-1 : Int32))) (f, l)) : fl_Tq (pw_P L xs) 295 2 [some (.inr (.inr (.inl (76, 277)))), some (.inl a), some (.inl (Int32.ofNat E)), none, none] [] (f, l) Q := by
  refine fl_Tq.stp (pc' := 3) (lv' := [some (.inr (.inr (.inl (76, 277)))), some (.inl a), some (.inl (Int32.ofNat E)), none, none]) (st' := [.inl (Int32.ofNat E)]) (m' := (f, l)) rfl rfl (fl_bo rfl) rfl ?_
  refine fl_Tq.stp (pc' := 4) (lv' := [some (.inr (.inr (.inl (76, 277)))), some (.inl a), some (.inl (Int32.ofNat E)), none, none]) (st' := [.inr (.inr (.inl (76, 277))), .inl (Int32.ofNat E)]) (m' := (f, l)) rfl rfl (fl_bo rfl) rfl ?_
  refine fl_Tq.stp (pc' := 7) (lv' := [some (.inr (.inr (.inl (76, 277)))), some (.inl a), some (.inl (Int32.ofNat E)), none, none]) (st' := [.inr (.inr (.inl (79, 280))), .inl (Int32.ofNat E)]) (m' := (f, l)) rfl rfl (fl_bo rfl) rfl ?_
  refine fl_Tq.cI (c := (2 : Int32)) rfl (by decide +kernel) (fl_bo rfl) ?_
  refine fl_Tq.ldV (p := 280) (τ := 79) (n := 29780) (z := (0, 0, 0)) (k := 2) (v := f 280 2) rfl (fl_bo rfl) rfl (by decide +kernel) (by decide) rfl ?_
  refine fl_Tq.jt rfl (fl_bo rfl) (c2_ge_t hkk) rfl ?_
  refine fl_Tq.cI (c := (-1 : Int32)) rfl (by decide +kernel) (fl_bo rfl) ?_
  exact fl_Tq.ret rfl rfl rfl k
noncomputable def x_rank_v (f : t2_F) (a : Int32) : Int32 := c0_rankedCell_v f a
theorem x_rank_q {L : Nat} {xs : Nat → Int32} {f : t2_F} {l : t2_L} {Q : Option fl_V → fl_M → Prop} {a : Int32} (hc : 0 ≤ (f 1 5).toInt ∧ (f 1 5).toInt ≤ 16) (k : Q (some (.inl (x_rank_v f a))) (f, l)) : fl_Tq (pw_P L xs) 136 0 (fl_args (am_mxl (pw_P L xs) 136) [.inr (.inr (.inl (0, 0))), .inl a]) [] (f, l) Q := by
  refine fl_Tq.stp (pc' := 1) (lv' := [some (.inr (.inr (.inl (0, 0)))), some (.inl a)]) (st' := [.inr (.inr (.inl (0, 0)))]) (m' := (f, l)) rfl rfl (fl_bo rfl) rfl ?_
  refine fl_Tq.stp (pc' := 4) (lv' := [some (.inr (.inr (.inl (0, 0)))), some (.inl a)]) (st' := [.inr (.inr (.inl (1, 1)))]) (m' := (f, l)) rfl rfl (fl_bo rfl) rfl ?_
  refine fl_Tq.stp (pc' := 5) (lv' := [some (.inr (.inr (.inl (0, 0)))), some (.inl a)]) (st' := [.inl a, .inr (.inr (.inl (1, 1)))]) (m' := (f, l)) rfl rfl (fl_bo rfl) rfl ?_
  refine fl_Tq.cal rfl rfl (fl_bo rfl) rfl ?_
  refine c0_rankedCell_q hc ?_
  show fl_Tq _ 136 8 [some (.inr (.inr (.inl (0, 0)))), some (.inl a)] [.inl (c0_rankedCell_v f a)] (f, l) _
  exact fl_Tq.ret rfl rfl rfl k
theorem t2_rk_p35 {x y : Int} {p : Prop} [Decidable p] : (if (if x = y then (if p then (1 : Int32) else (0 : Int32)) else (0 : Int32)).toInt = 0 then (if y < x then (1 : Int32) else (0 : Int32)) else (1 : Int32)) = (if y < x then (1 : Int32) else (if x = y then (if p then (1 : Int32) else (0 : Int32)) else (0 : Int32))) := by
  have z0 : (0 : Int32).toInt = 0 := rfl
  have z1 : ¬ ((1 : Int32).toInt = 0) := by decide +kernel
  by_cases h2 : x = y
  · have h1 : ¬ y < x := by omega
    by_cases h3 : p
    · simp only [if_pos h2, if_neg h1, if_pos h3, if_neg z1]
    · simp only [if_pos h2, if_neg h1, if_neg h3, if_pos z0]
  · simp only [if_neg h2, if_pos z0]
section T2RANK
variable {L : Nat} {xs : Nat → Int32} {f : t2_F} {l : t2_L} {Q : Option fl_V → fl_M → Prop} {a x : Int32} {C : Nat}
/-- how many stand ahead of a cell, both count alike -/
theorem c0_place_e_p35 (I : c0_I f f) (hC : C < (f 280 2).toInt.toNat) : c0_placeOf_v f (Int32.ofNat C) = y_rank_B_a17_p35 f a C ((f 280 2).toInt.toNat) := by
  have n16 := I.rhu.1
  have eC : (Int32.ofNat C).toInt = (C : Int) := at_ofN (by omega)
  have a1 : ∀ k : Nat, k ≤ (f 280 2).toInt.toNat → c0_placeOf_a15 f (Int32.ofNat C) k = y_rank_B_a17_p35 f a C k := by
    intro k
    induction k with
    | zero => intro _; rfl
    | succ k ih =>
      intro hk
      show c0_placeOf_a15 f (Int32.ofNat C) k + (if (if (f (18 + 4 * k) 3).toInt = (f (18 + 4 * (Int32.ofNat C).toInt.toNat) 3).toInt then (if (Int32.ofNat k).toInt < (Int32.ofNat C).toInt then (1 : Int32) else (0 : Int32)) else (0 : Int32)).toInt = 0 then (if (f (18 + 4 * (Int32.ofNat C).toInt.toNat) 3).toInt < (f (18 + 4 * k) 3).toInt then (1 : Int32) else (0 : Int32)) else (1 : Int32)) = y_rank_B_a17_p35 f a C k + (if (r_partOf_v f (Int32.ofNat C) C).toInt < (r_partOf_v f (Int32.ofNat k) k).toInt then (1 : Int32) else (if (r_partOf_v f (Int32.ofNat k) k).toInt = (r_partOf_v f (Int32.ofNat C) C).toInt then (if (Int32.ofNat k).toInt < (Int32.ofNat C).toInt then (1 : Int32) else (0 : Int32)) else (0 : Int32)))
      rw [ih (by omega), t2_rk_p35, show (Int32.ofNat C).toInt.toNat = C by omega, I.part (C := k) (by omega) (Int32.ofNat k), I.part hC (Int32.ofNat C)]
  unfold c0_placeOf_v
  rw [show (f 1 5) = f 280 2 from I.1.1.1]
  exact a1 _ (Nat.le_refl _)
theorem y_rank_ct_p35 (hC : C < 16) : ∀ k : Nat, k ≤ 16 → y_rank_B_a17_p35 f a C k = Int32.ofNat (at_ct (at_bf (fun e => (r_partOf_v f 0 e).toInt) C) k) := by
  have eC : (Int32.ofNat C).toInt = (C : Int) := at_ofN (by omega)
  intro k
  induction k with
  | zero => intro _; rfl
  | succ k ih =>
    intro hk
    have ek : (Int32.ofNat k).toInt = (k : Int) := at_ofN (by omega)
    have hle := at_ct_le (at_bf (fun e => (r_partOf_v f 0 e).toInt) C) k
    have s : y_rank_B_a17_p35 f a C (k + 1) = y_rank_B_a17_p35 f a C k + (if (r_partOf_v f 0 C).toInt < (r_partOf_v f 0 k).toInt then (1 : Int32) else (if (r_partOf_v f 0 k).toInt = (r_partOf_v f 0 C).toInt then (if (Int32.ofNat k).toInt < (Int32.ofNat C).toInt then (1 : Int32) else (0 : Int32)) else (0 : Int32))) := rfl
    have e1 : Int32.ofNat (at_ct (at_bf (fun e => (r_partOf_v f 0 e).toInt) C) k) + (1 : Int32) = Int32.ofNat (at_ct (at_bf (fun e => (r_partOf_v f 0 e).toInt) C) k + 1) := t2_k1 _
    have e0 : Int32.ofNat (at_ct (at_bf (fun e => (r_partOf_v f 0 e).toInt) C) k) + (0 : Int32) = Int32.ofNat (at_ct (at_bf (fun e => (r_partOf_v f 0 e).toInt) C) k) := Int32.add_zero _
    rw [s, ih (by omega), ek, eC]
    show _ = Int32.ofNat (at_ct (at_bf (fun e => (r_partOf_v f 0 e).toInt) C) k + (if at_bf (fun e => (r_partOf_v f 0 e).toInt) C k then 1 else 0))
    by_cases h1 : (r_partOf_v f 0 C).toInt < (r_partOf_v f 0 k).toInt
    · have hb : at_bf (fun e => (r_partOf_v f 0 e).toInt) C k = true := by
        unfold at_bf
        rw [decide_eq_true h1]
        rfl
      rw [if_pos h1, hb, e1]
      rfl
    · by_cases h2 : (r_partOf_v f 0 k).toInt = (r_partOf_v f 0 C).toInt
      · by_cases h3 : k < C
        · have hb : at_bf (fun e => (r_partOf_v f 0 e).toInt) C k = true := by
            unfold at_bf
            rw [decide_eq_false h1, decide_eq_true h2, decide_eq_true h3]
            rfl
          rw [if_neg h1, if_pos h2, if_pos (by omega), hb, e1]
          rfl
        · have hb : at_bf (fun e => (r_partOf_v f 0 e).toInt) C k = false := by
            unfold at_bf
            rw [decide_eq_false h1, decide_eq_true h2, decide_eq_false h3]
            rfl
          rw [if_neg h1, if_pos h2, if_neg (by omega), hb, e0]
          rfl
      · have hb : at_bf (fun e => (r_partOf_v f 0 e).toInt) C k = false := by
          unfold at_bf
          rw [decide_eq_false h1, decide_eq_false h2]
          rfl
        rw [if_neg h1, if_neg h2, hb, e0]
        rfl
theorem c0_rank_e2_p35 : ∀ k : Nat, (c0_rankedCell_e2 f x k = none → ∀ c : Nat, c < k → (c0_placeOf_v f (Int32.ofNat c)).toInt ≠ x.toInt) ∧ ∀ r : Int32, c0_rankedCell_e2 f x k = some r → ∃ c : Nat, c < k ∧ r = Int32.ofNat c := by
  intro k
  induction k with
  | zero => exact ⟨fun _ c hc => absurd hc (by omega), fun r h => by cases h⟩
  | succ k ih =>
    have s : c0_rankedCell_e2 f x (k + 1) = match c0_rankedCell_e2 f x k with
      | some r => some r
      | none => if (c0_placeOf_v f (Int32.ofNat k)).toInt = x.toInt then some (Int32.ofNat k) else none := rfl
    rw [s]
    cases he : c0_rankedCell_e2 f x k with
    | some r =>
      refine ⟨fun h => (by cases h), fun r' h => ?_⟩
      obtain ⟨c, hc, e⟩ := ih.2 r he
      cases h
      exact ⟨c, by omega, e⟩
    | none =>
      have i := ih.1 he
      by_cases hp : (c0_placeOf_v f (Int32.ofNat k)).toInt = x.toInt
      · refine ⟨fun h => ?_, fun r' h => ?_⟩
        · dsimp only at h
          rw [if_pos hp] at h
          cases h
        · dsimp only at h
          rw [if_pos hp] at h
          cases h
          exact ⟨k, by omega, rfl⟩
      · refine ⟨fun _ c hc => ?_, fun r' h => ?_⟩
        · rcases (by omega : c < k ∨ c = k) with h2 | rfl
          · exact i c h2
          · exact hp
        · dsimp only at h
          rw [if_neg hp] at h
          cases h
/-- each rank is some cell's -/
theorem c0_rank_ex_p35 (I : c0_I f f) {A : Nat} (hx : x.toInt = (A : Int)) (hA : A < (f 280 2).toInt.toNat) : ∃ c : Nat, c < (f 280 2).toInt.toNat ∧ c0_rankedCell_v f x = Int32.ofNat c := by
  have n16 := I.rhu.1
  unfold c0_rankedCell_v
  rw [show (f 1 5) = f 280 2 from I.1.1.1]
  obtain ⟨h1, h2⟩ := c0_rank_e2_p35 (f := f) (x := x) ((f 280 2).toInt.toNat)
  cases he : c0_rankedCell_e2 f x ((f 280 2).toInt.toNat) with
  | some r => exact h2 r he
  | none =>
    obtain ⟨c, hc, e⟩ := at_rank_ex (fun e => (r_partOf_v f 0 e).toInt) ((f 280 2).toInt.toNat) A hA
    refine absurd ?_ (h1 he c hc)
    rw [c0_place_e_p35 (a := 0) I hc, y_rank_ct_p35 (by omega) _ (by omega), e, hx, at_ofN (by omega)]
/-- the reference's rank -/
theorem y_rank_q_p35 (I : c0_I f f) (k : Q (some (.inl (c0_rankedCell_v f a))) (f, l)) : fl_Tq (pw_P L xs) 295 0 (fl_args (am_mxl (pw_P L xs) 295) [at_this, .inl a]) [] (f, l) Q := by
  have n16 := I.rhu.1
  have hk := I.rhu.2
  have e5 : f 1 5 = f 280 2 := I.1.1.1
  have hm2 : ∀ (k : Nat) (r : Int32), c0_rankedCell_e2 f a k = some r → c0_rankedCell_e2 f a (k + 1) = some r := fun k r e => by
    unfold c0_rankedCell_e2
    rw [e]
  have hs : ∀ C : Nat, C < (f 1 5).toInt.toNat → c0_rankedCell_e2 f a C = none → (c0_rankedCell_e2 f a (C + 1) = none → fl_Tq (pw_P L xs) 295 2 [some (.inr (.inr (.inl (76, 277)))), some (.inl a), some (.inl (Int32.ofNat (C + 1))), none, none] [] (f, l) Q) → fl_Tq (pw_P L xs) 295 2 [some (.inr (.inr (.inl (76, 277)))), some (.inl a), some (.inl (Int32.ofNat C)), none, none] [] (f, l) Q := by
    intro C hC he hS
    rw [e5] at hC
    have eC : (Int32.ofNat C).toInt = (C : Int) := at_ofN (by omega)
    refine y_rank_B_p35 (by omega) (by omega) n16 hk (by omega) ?_
    rw [← c0_place_e_p35 I hC]
    refine y_rank_C_p35 (fun h1 => ?_) (fun h1 => ?_)
    · have ee : c0_rankedCell_e2 f a (C + 1) = some (Int32.ofNat C) := by
        unfold c0_rankedCell_e2
        rw [he]
        simp only [if_pos h1]
      have en : c0_rankedCell_e2 f a ((f 1 5).toInt.toNat) = some (Int32.ofNat C) := t2_Em hm2 ee (by rw [e5]; omega)
      unfold c0_rankedCell_v at k
      simp only [en] at k
      exact k
    · have ee : c0_rankedCell_e2 f a (C + 1) = none := by
        unfold c0_rankedCell_e2
        rw [he]
        simp only [if_neg h1]
      have hS := hS ee
      rw [← t2_k1] at hS
      exact fl_Tq.fg hS ⟨rfl, rfl, rfl, True.intro⟩
  refine y_rank_A_p35 ?_
  refine t2_forE (E := c0_rankedCell_e2 f a) (S := fun C => fl_Tq (pw_P L xs) 295 2 [some (.inr (.inr (.inl (76, 277)))), some (.inl a), some (.inl (Int32.ofNat C)), none, none] [] (f, l) Q) hs rfl (fun en2 => ?_)
  have eC : (Int32.ofNat (f 1 5).toInt.toNat).toInt = (((f 1 5).toInt.toNat : Nat) : Int) := at_ofN (by rw [e5]; omega)
  refine y_rank_D_p35 (by rw [eC, e5]; omega) ?_
  unfold c0_rankedCell_v at k
  simp only [en2] at k
  exact k
end T2RANK
/-! ===== rank, on both sides ===== -/
theorem t2_cmp_35 {L : Nat} {xs : Nat → Int32} {f : t2_F} {l : t2_L} {a : Int32} (_hall : ∀ c ∈ at_CM ++ at_CA, at_Valid at_XI (pw_P L xs) c) (hg : t2_Z (f, l)) : fl_Tq (pw_P L xs) 136 0 (fl_args (am_mxl (pw_P L xs) 136) [lx_x, .inl a]) [] (f, l) (t2_End L xs 295 [at_this, .inl a]) := by
  have I : c0_I f f := hg.2.1
  exact t2_qq (y := c0_rankedCell_v f a) hg (fun Q k => x_rank_q I.hc k) (fun Q k => y_rank_q_p35 I k)

end
