/-! 95.05.22p44.lean.txt -/
section
noncomputable def x_undr_a17 (f : t2_F) (a : Int32) : Nat → Int32
  | 0 => (0 : Int32)
  | k17 + 1 => (x_undr_a17 f a k17) + (if (f (18 + 4 * k17) 3).toInt < a.toInt then (1 : Int32) else (0 : Int32))
noncomputable def x_undr_v (f : t2_F) (a : Int32) : Int32 := if (t2_within_v a (0 : Int32) (1000 : Int32)).toInt = 0 then (-1 : Int32) else x_undr_a17 f a ((f 1 5).toInt.toNat)
theorem x_undr_q {L : Nat} {xs : Nat → Int32} {f : t2_F} {l : t2_L} {Q : Option fl_V → fl_M → Prop} {a : Int32} (hc : 0 ≤ (f 1 5).toInt ∧ (f 1 5).toInt ≤ 16) (k : Q (some (.inl (x_undr_v f a))) (f, l)) : fl_Tq (pw_P L xs) 145 0 (fl_args (am_mxl (pw_P L xs) 145) [.inr (.inr (.inl (0, 0))), .inl a]) [] (f, l) Q := by
  refine fl_Tq.stp (pc' := 1) (lv' := [some (.inr (.inr (.inl (0, 0)))), some (.inl a), none, none]) (st' := [.inl a]) (m' := (f, l)) rfl rfl (fl_bo rfl) rfl ?_
  refine fl_Tq.cI (c := (0 : Int32)) rfl (by decide +kernel) (fl_bo rfl) ?_
  refine fl_Tq.cS (c := (1000 : Int32)) rfl (by decide +kernel) (fl_bo rfl) ?_
  refine fl_Tq.cal rfl rfl (fl_bo rfl) rfl ?_
  refine t2_within_q  ?_
  show fl_Tq _ 145 8 [some (.inr (.inr (.inl (0, 0)))), some (.inl a), none, none] [.inl (t2_within_v a (0 : Int32) (1000 : Int32))] (f, l) _
  by_cases h1 : (t2_within_v a (0 : Int32) (1000 : Int32)).toInt = 0
  · refine fl_Tq.zf rfl (fl_bo rfl) (c1_ne_f h1) rfl ?_
    refine fl_Tq.cI (c := (-1 : Int32)) rfl (by decide +kernel) (fl_bo rfl) ?_
    refine fl_Tq.ret rfl rfl rfl ?_
    unfold x_undr_v at k
    simp only [if_pos h1] at k
    exact k
  · refine fl_Tq.zt rfl (fl_bo rfl) (c1_ne_t h1) rfl ?_
    refine fl_Tq.cI (c := (0 : Int32)) rfl (by decide +kernel) (fl_bo rfl) ?_
    refine fl_Tq.stp (pc' := 15) (lv' := [some (.inr (.inr (.inl (0, 0)))), some (.inl a), some (.inl (0 : Int32)), none]) (st' := []) (m' := (f, l)) rfl rfl (fl_bo rfl) rfl ?_
    refine fl_Tq.cI (c := (0 : Int32)) rfl (by decide +kernel) (fl_bo rfl) ?_
    refine fl_Tq.stp (pc' := 17) (lv' := [some (.inr (.inr (.inl (0, 0)))), some (.inl a), some (.inl (0 : Int32)), some (.inl (0 : Int32))]) (st' := []) (m' := (f, l)) rfl rfl (fl_bo rfl) rfl ?_
    have hs17 : ∀ k17 : Nat, k17 < (f 1 5).toInt.toNat → fl_Tq (pw_P L xs) 145 17 [some (.inr (.inr (.inl (0, 0)))), some (.inl a), some (.inl (x_undr_a17 f a (k17 + 1))), some (.inl (Int32.ofNat (k17 + 1)))] [] (f, l) Q → fl_Tq (pw_P L xs) 145 17 [some (.inr (.inr (.inl (0, 0)))), some (.inl a), some (.inl (x_undr_a17 f a k17)), some (.inl (Int32.ofNat k17))] [] (f, l) Q := by
      intro k17 hk17 hS
      refine fl_Tq.stp (pc' := 18) (lv' := [some (.inr (.inr (.inl (0, 0)))), some (.inl a), some (.inl (x_undr_a17 f a k17)), some (.inl (Int32.ofNat k17))]) (st' := [.inl (Int32.ofNat k17)]) (m' := (f, l)) rfl rfl (fl_bo rfl) rfl ?_
      refine fl_Tq.stp (pc' := 19) (lv' := [some (.inr (.inr (.inl (0, 0)))), some (.inl a), some (.inl (x_undr_a17 f a k17)), some (.inl (Int32.ofNat k17))]) (st' := [.inr (.inr (.inl (0, 0))), .inl (Int32.ofNat k17)]) (m' := (f, l)) rfl rfl (fl_bo rfl) rfl ?_
      refine fl_Tq.stp (pc' := 22) (lv' := [some (.inr (.inr (.inl (0, 0)))), some (.inl a), some (.inl (x_undr_a17 f a k17)), some (.inl (Int32.ofNat k17))]) (st' := [.inr (.inr (.inl (1, 1))), .inl (Int32.ofNat k17)]) (m' := (f, l)) rfl rfl (fl_bo rfl) rfl ?_
      refine fl_Tq.gfV (k := 5) (v := f 1 5) rfl (fl_bo rfl) rfl rfl ?_
      refine fl_Tq.jf rfl (fl_bo rfl) (c2_ge_f (t2_lk hk17 (t2_nn hc.1))) rfl ?_
      refine fl_Tq.stp (pc' := 29) (lv' := [some (.inr (.inr (.inl (0, 0)))), some (.inl a), some (.inl (x_undr_a17 f a k17)), some (.inl (Int32.ofNat k17))]) (st' := [.inl (x_undr_a17 f a k17)]) (m' := (f, l)) rfl rfl (fl_bo rfl) rfl ?_
      refine fl_Tq.stp (pc' := 30) (lv' := [some (.inr (.inr (.inl (0, 0)))), some (.inl a), some (.inl (x_undr_a17 f a k17)), some (.inl (Int32.ofNat k17))]) (st' := [.inr (.inr (.inl (0, 0))), .inl (x_undr_a17 f a k17)]) (m' := (f, l)) rfl rfl (fl_bo rfl) rfl ?_
      refine fl_Tq.stp (pc' := 33) (lv' := [some (.inr (.inr (.inl (0, 0)))), some (.inl a), some (.inl (x_undr_a17 f a k17)), some (.inl (Int32.ofNat k17))]) (st' := [.inr (.inr (.inl (1, 1))), .inl (x_undr_a17 f a k17)]) (m' := (f, l)) rfl rfl (fl_bo rfl) rfl ?_
      refine fl_Tq.stp (pc' := 36) (lv' := [some (.inr (.inr (.inl (0, 0)))), some (.inl a), some (.inl (x_undr_a17 f a k17)), some (.inl (Int32.ofNat k17))]) (st' := [.inr (.inr (.inl (2, 2))), .inl (x_undr_a17 f a k17)]) (m' := (f, l)) rfl rfl (fl_bo rfl) rfl ?_
      refine fl_Tq.stp (pc' := 37) (lv' := [some (.inr (.inr (.inl (0, 0)))), some (.inl a), some (.inl (x_undr_a17 f a k17)), some (.inl (Int32.ofNat k17))]) (st' := [.inl (Int32.ofNat k17), .inr (.inr (.inl (2, 2))), .inl (x_undr_a17 f a k17)]) (m' := (f, l)) rfl rfl (fl_bo rfl) rfl ?_
      refine fl_Tq.qld (p := 2) (τ := 2) (n := 16) (t := 18) (b := 16) (d := 3) (k := k17) rfl (fl_bo rfl) rfl (at_ofN (by omega)) (by omega) ?_
      show fl_Tq _ 145 38 [some (.inr (.inr (.inl (0, 0)))), some (.inl a), some (.inl (x_undr_a17 f a k17)), some (.inl (Int32.ofNat k17))] [.inr (.inr (.inl (18, 18 + 4 * k17))), .inl (x_undr_a17 f a k17)] (f, l) _
      refine fl_Tq.gfV (k := 3) (v := f (18 + 4 * k17) 3) rfl (fl_oks_ok ⟨(t2_kc0 (by omega)), True.intro, True.intro⟩) rfl rfl ?_
      refine fl_Tq.stp (pc' := 42) (lv' := [some (.inr (.inr (.inl (0, 0)))), some (.inl a), some (.inl (x_undr_a17 f a k17)), some (.inl (Int32.ofNat k17))]) (st' := [.inl a, .inl (f (18 + 4 * k17) 3), .inl (x_undr_a17 f a k17)]) (m' := (f, l)) rfl rfl (fl_bo rfl) rfl ?_
      have hj190 : fl_Tq (pw_P L xs) 145 50 [some (.inr (.inr (.inl (0, 0)))), some (.inl a), some (.inl (x_undr_a17 f a k17)), some (.inl (Int32.ofNat k17))] [.inl (if (f (18 + 4 * k17) 3).toInt < a.toInt then (1 : Int32) else (0 : Int32)), .inl (x_undr_a17 f a k17)] (f, l) Q → fl_Tq (pw_P L xs) 145 42 [some (.inr (.inr (.inl (0, 0)))), some (.inl a), some (.inl (x_undr_a17 f a k17)), some (.inl (Int32.ofNat k17))] [.inl a, .inl (f (18 + 4 * k17) 3), .inl (x_undr_a17 f a k17)] (f, l) Q := by
        intro hJ
        by_cases h2 : (f (18 + 4 * k17) 3).toInt < a.toInt
        · refine fl_Tq.jf rfl (fl_bo rfl) (c2_ge_f h2) rfl ?_
          refine fl_Tq.cI (c := (1 : Int32)) rfl (by decide +kernel) (fl_bo rfl) ?_
          refine fl_Tq.stp (pc' := 50) (lv' := [some (.inr (.inr (.inl (0, 0)))), some (.inl a), some (.inl (x_undr_a17 f a k17)), some (.inl (Int32.ofNat k17))]) (st' := [.inl (1 : Int32), .inl (x_undr_a17 f a k17)]) (m' := (f, l)) rfl rfl (fl_bo rfl) rfl ?_
          have e0 : (if (f (18 + 4 * k17) 3).toInt < a.toInt then (1 : Int32) else (0 : Int32)) = (1 : Int32) := by simp only [if_pos h2]
          rw [e0] at hJ
          exact hJ
        · refine fl_Tq.jt rfl (fl_bo rfl) (c2_ge_t h2) rfl ?_
          refine fl_Tq.cI (c := (0 : Int32)) rfl (by decide +kernel) (fl_bo rfl) ?_
          have e0 : (if (f (18 + 4 * k17) 3).toInt < a.toInt then (1 : Int32) else (0 : Int32)) = (0 : Int32) := by simp only [if_neg h2]
          rw [e0] at hJ
          exact hJ
      refine hj190 ?_
      show fl_Tq _ 145 50 [some (.inr (.inr (.inl (0, 0)))), some (.inl a), some (.inl (x_undr_a17 f a k17)), some (.inl (Int32.ofNat k17))] [.inl (if (f (18 + 4 * k17) 3).toInt < a.toInt then (1 : Int32) else (0 : Int32)), .inl (x_undr_a17 f a k17)] (f, l) _
      refine fl_Tq.stp (pc' := 51) (lv' := [some (.inr (.inr (.inl (0, 0)))), some (.inl a), some (.inl (x_undr_a17 f a k17)), some (.inl (Int32.ofNat k17))]) (st' := [.inl ((x_undr_a17 f a k17) + (if (f (18 + 4 * k17) 3).toInt < a.toInt then (1 : Int32) else (0 : Int32)))]) (m' := (f, l)) rfl rfl (fl_bo rfl) rfl ?_
      refine fl_Tq.stp (pc' := 52) (lv' := [some (.inr (.inr (.inl (0, 0)))), some (.inl a), some (.inl ((x_undr_a17 f a k17) + (if (f (18 + 4 * k17) 3).toInt < a.toInt then (1 : Int32) else (0 : Int32)))), some (.inl (Int32.ofNat k17))]) (st' := []) (m' := (f, l)) rfl rfl (fl_bo rfl) rfl ?_
      refine fl_Tq.stp (pc' := 55) (lv' := [some (.inr (.inr (.inl (0, 0)))), some (.inl a), some (.inl ((x_undr_a17 f a k17) + (if (f (18 + 4 * k17) 3).toInt < a.toInt then (1 : Int32) else (0 : Int32)))), some (.inl ((Int32.ofNat k17) + (1 : Int32)))]) (st' := []) (m' := (f, l)) rfl rfl (fl_bo rfl) rfl ?_
      refine fl_Tq.stp (pc' := 17) (lv' := [some (.inr (.inr (.inl (0, 0)))), some (.inl a), some (.inl ((x_undr_a17 f a k17) + (if (f (18 + 4 * k17) 3).toInt < a.toInt then (1 : Int32) else (0 : Int32)))), some (.inl ((Int32.ofNat k17) + (1 : Int32)))]) (st' := []) (m' := (f, l)) rfl rfl (fl_bo rfl) rfl ?_
      have ea : x_undr_a17 f a (k17 + 1) = (x_undr_a17 f a k17) + (if (f (18 + 4 * k17) 3).toInt < a.toInt then (1 : Int32) else (0 : Int32)) := by
        show ((x_undr_a17 f a k17) + (if (f (18 + 4 * k17) 3).toInt < a.toInt then (1 : Int32) else (0 : Int32))) = _
        rfl
      rw [ea, ← t2_k1] at hS
      exact hS
    refine t2_for (S := fun k17 => fl_Tq (pw_P L xs) 145 17 [some (.inr (.inr (.inl (0, 0)))), some (.inl a), some (.inl (x_undr_a17 f a k17)), some (.inl (Int32.ofNat k17))] [] (f, l) Q) hs17 ?_
    show fl_Tq (pw_P L xs) 145 17 [some (.inr (.inr (.inl (0, 0)))), some (.inl a), some (.inl (x_undr_a17 f a ((f 1 5).toInt.toNat))), some (.inl (Int32.ofNat ((f 1 5).toInt.toNat)))] [] (f, l) _
    refine fl_Tq.stp (pc' := 18) (lv' := [some (.inr (.inr (.inl (0, 0)))), some (.inl a), some (.inl (x_undr_a17 f a ((f 1 5).toInt.toNat))), some (.inl (Int32.ofNat ((f 1 5).toInt.toNat)))]) (st' := [.inl (Int32.ofNat ((f 1 5).toInt.toNat))]) (m' := (f, l)) rfl rfl (fl_bo rfl) rfl ?_
    refine fl_Tq.stp (pc' := 19) (lv' := [some (.inr (.inr (.inl (0, 0)))), some (.inl a), some (.inl (x_undr_a17 f a ((f 1 5).toInt.toNat))), some (.inl (Int32.ofNat ((f 1 5).toInt.toNat)))]) (st' := [.inr (.inr (.inl (0, 0))), .inl (Int32.ofNat ((f 1 5).toInt.toNat))]) (m' := (f, l)) rfl rfl (fl_bo rfl) rfl ?_
    refine fl_Tq.stp (pc' := 22) (lv' := [some (.inr (.inr (.inl (0, 0)))), some (.inl a), some (.inl (x_undr_a17 f a ((f 1 5).toInt.toNat))), some (.inl (Int32.ofNat ((f 1 5).toInt.toNat)))]) (st' := [.inr (.inr (.inl (1, 1))), .inl (Int32.ofNat ((f 1 5).toInt.toNat))]) (m' := (f, l)) rfl rfl (fl_bo rfl) rfl ?_
    refine fl_Tq.gfV (k := 5) (v := f 1 5) rfl (fl_bo rfl) rfl rfl ?_
    refine fl_Tq.jt rfl (fl_bo rfl) (c2_ge_t (t2_ln (t2_nn hc.1))) rfl ?_
    refine fl_Tq.stp (pc' := 59) (lv' := [some (.inr (.inr (.inl (0, 0)))), some (.inl a), some (.inl (x_undr_a17 f a ((f 1 5).toInt.toNat))), some (.inl (Int32.ofNat ((f 1 5).toInt.toNat)))]) (st' := [.inl (x_undr_a17 f a ((f 1 5).toInt.toNat))]) (m' := (f, l)) rfl rfl (fl_bo rfl) rfl ?_
    refine fl_Tq.ret rfl rfl rfl ?_
    unfold x_undr_v at k
    simp only [if_neg h1] at k
    exact k
noncomputable def y_undr_a17 (f : t2_F) (a : Int32) : Nat → Int32
  | 0 => (0 : Int32)
  | k17 + 1 => (y_undr_a17 f a k17) + (if (r_partOf_v f (Int32.ofNat k17) k17).toInt < a.toInt then (1 : Int32) else (0 : Int32))
noncomputable def y_undr_v (f : t2_F) (a : Int32) : Int32 := if (r_isIn_v a (0 : Int32) (1000 : Int32)).toInt = 0 then (-1 : Int32) else y_undr_a17 f a ((f 280 2).toInt.toNat)
theorem y_undr_q {L : Nat} {xs : Nat → Int32} {f : t2_F} {l : t2_L} {Q : Option fl_V → fl_M → Prop} {a : Int32} (hn : 0 ≤ (f 280 2).toInt ∧ (f 280 2).toInt ≤ 16) (hk : ∀ C : Nat, (C : Int) < (f 280 2).toInt → t2_ck f C) (k : Q (some (.inl (y_undr_v f a))) (f, l)) : fl_Tq (pw_P L xs) 282 0 (fl_args (am_mxl (pw_P L xs) 282) [.inr (.inr (.inl (76, 277))), .inl a]) [] (f, l) Q := by
  refine fl_Tq.stp (pc' := 1) (lv' := [some (.inr (.inr (.inl (76, 277)))), some (.inl a), none, none]) (st' := [.inl a]) (m' := (f, l)) rfl rfl (fl_bo rfl) rfl ?_
  refine fl_Tq.cI (c := (0 : Int32)) rfl (by decide +kernel) (fl_bo rfl) ?_
  refine fl_Tq.cS (c := (1000 : Int32)) rfl (by decide +kernel) (fl_bo rfl) ?_
  refine fl_Tq.cal rfl rfl (fl_bo rfl) rfl ?_
  refine r_isIn_q  ?_
  show fl_Tq _ 282 8 [some (.inr (.inr (.inl (76, 277)))), some (.inl a), none, none] [.inl (r_isIn_v a (0 : Int32) (1000 : Int32))] (f, l) _
  by_cases h1 : (r_isIn_v a (0 : Int32) (1000 : Int32)).toInt = 0
  · refine fl_Tq.zf rfl (fl_bo rfl) (c1_ne_f h1) rfl ?_
    refine fl_Tq.cI (c := (-1 : Int32)) rfl (by decide +kernel) (fl_bo rfl) ?_
    refine fl_Tq.ret rfl rfl rfl ?_
    unfold y_undr_v at k
    simp only [if_pos h1] at k
    exact k
  · refine fl_Tq.zt rfl (fl_bo rfl) (c1_ne_t h1) rfl ?_
    refine fl_Tq.cI (c := (0 : Int32)) rfl (by decide +kernel) (fl_bo rfl) ?_
    refine fl_Tq.stp (pc' := 15) (lv' := [some (.inr (.inr (.inl (76, 277)))), some (.inl a), some (.inl (0 : Int32)), none]) (st' := []) (m' := (f, l)) rfl rfl (fl_bo rfl) rfl ?_
    refine fl_Tq.cI (c := (0 : Int32)) rfl (by decide +kernel) (fl_bo rfl) ?_
    refine fl_Tq.stp (pc' := 17) (lv' := [some (.inr (.inr (.inl (76, 277)))), some (.inl a), some (.inl (0 : Int32)), some (.inl (0 : Int32))]) (st' := []) (m' := (f, l)) rfl rfl (fl_bo rfl) rfl ?_
    have hs17 : ∀ k17 : Nat, k17 < (f 280 2).toInt.toNat → fl_Tq (pw_P L xs) 282 17 [some (.inr (.inr (.inl (76, 277)))), some (.inl a), some (.inl (y_undr_a17 f a (k17 + 1))), some (.inl (Int32.ofNat (k17 + 1)))] [] (f, l) Q → fl_Tq (pw_P L xs) 282 17 [some (.inr (.inr (.inl (76, 277)))), some (.inl a), some (.inl (y_undr_a17 f a k17)), some (.inl (Int32.ofNat k17))] [] (f, l) Q := by
      intro k17 hk17 hS
      refine fl_Tq.stp (pc' := 18) (lv' := [some (.inr (.inr (.inl (76, 277)))), some (.inl a), some (.inl (y_undr_a17 f a k17)), some (.inl (Int32.ofNat k17))]) (st' := [.inl (Int32.ofNat k17)]) (m' := (f, l)) rfl rfl (fl_bo rfl) rfl ?_
      refine fl_Tq.stp (pc' := 19) (lv' := [some (.inr (.inr (.inl (76, 277)))), some (.inl a), some (.inl (y_undr_a17 f a k17)), some (.inl (Int32.ofNat k17))]) (st' := [.inr (.inr (.inl (76, 277))), .inl (Int32.ofNat k17)]) (m' := (f, l)) rfl rfl (fl_bo rfl) rfl ?_
      refine fl_Tq.stp (pc' := 22) (lv' := [some (.inr (.inr (.inl (76, 277)))), some (.inl a), some (.inl (y_undr_a17 f a k17)), some (.inl (Int32.ofNat k17))]) (st' := [.inr (.inr (.inl (79, 280))), .inl (Int32.ofNat k17)]) (m' := (f, l)) rfl rfl (fl_bo rfl) rfl ?_
      refine fl_Tq.cI (c := (2 : Int32)) rfl (by decide +kernel) (fl_bo rfl) ?_
      refine fl_Tq.ldV (p := 280) (τ := 79) (n := 29780) (z := (0, 0, 0)) (k := 2) (v := f 280 2) rfl (fl_bo rfl) rfl (by decide +kernel) (by decide) rfl ?_
      refine fl_Tq.jf rfl (fl_bo rfl) (c2_ge_f (t2_lk hk17 (t2_nn hn.1))) rfl ?_
      refine fl_Tq.stp (pc' := 28) (lv' := [some (.inr (.inr (.inl (76, 277)))), some (.inl a), some (.inl (y_undr_a17 f a k17)), some (.inl (Int32.ofNat k17))]) (st' := [.inl (y_undr_a17 f a k17)]) (m' := (f, l)) rfl rfl (fl_bo rfl) rfl ?_
      refine fl_Tq.stp (pc' := 29) (lv' := [some (.inr (.inr (.inl (76, 277)))), some (.inl a), some (.inl (y_undr_a17 f a k17)), some (.inl (Int32.ofNat k17))]) (st' := [.inr (.inr (.inl (76, 277))), .inl (y_undr_a17 f a k17)]) (m' := (f, l)) rfl rfl (fl_bo rfl) rfl ?_
      refine fl_Tq.stp (pc' := 30) (lv' := [some (.inr (.inr (.inl (76, 277)))), some (.inl a), some (.inl (y_undr_a17 f a k17)), some (.inl (Int32.ofNat k17))]) (st' := [.inl (Int32.ofNat k17), .inr (.inr (.inl (76, 277))), .inl (y_undr_a17 f a k17)]) (m' := (f, l)) rfl rfl (fl_bo rfl) rfl ?_
      refine fl_Tq.cal rfl rfl (fl_bo rfl) rfl ?_
      refine r_partOf_q (at_ofN (by omega)) (by omega) (hk k17 (by omega)) ?_
      show fl_Tq _ 282 33 [some (.inr (.inr (.inl (76, 277)))), some (.inl a), some (.inl (y_undr_a17 f a k17)), some (.inl (Int32.ofNat k17))] [.inl (r_partOf_v f (Int32.ofNat k17) k17), .inl (y_undr_a17 f a k17)] (f, l) _
      refine fl_Tq.stp (pc' := 34) (lv' := [some (.inr (.inr (.inl (76, 277)))), some (.inl a), some (.inl (y_undr_a17 f a k17)), some (.inl (Int32.ofNat k17))]) (st' := [.inl a, .inl (r_partOf_v f (Int32.ofNat k17) k17), .inl (y_undr_a17 f a k17)]) (m' := (f, l)) rfl rfl (fl_bo rfl) rfl ?_
      have hj191 : fl_Tq (pw_P L xs) 282 42 [some (.inr (.inr (.inl (76, 277)))), some (.inl a), some (.inl (y_undr_a17 f a k17)), some (.inl (Int32.ofNat k17))] [.inl (if (r_partOf_v f (Int32.ofNat k17) k17).toInt < a.toInt then (1 : Int32) else (0 : Int32)), .inl (y_undr_a17 f a k17)] (f, l) Q → fl_Tq (pw_P L xs) 282 34 [some (.inr (.inr (.inl (76, 277)))), some (.inl a), some (.inl (y_undr_a17 f a k17)), some (.inl (Int32.ofNat k17))] [.inl a, .inl (r_partOf_v f (Int32.ofNat k17) k17), .inl (y_undr_a17 f a k17)] (f, l) Q := by
        intro hJ
        by_cases h2 : (r_partOf_v f (Int32.ofNat k17) k17).toInt < a.toInt
        · refine fl_Tq.jf rfl (fl_bo rfl) (c2_ge_f h2) rfl ?_
          refine fl_Tq.cI (c := (1 : Int32)) rfl (by decide +kernel) (fl_bo rfl) ?_
          refine fl_Tq.stp (pc' := 42) (lv' := [some (.inr (.inr (.inl (76, 277)))), some (.inl a), some (.inl (y_undr_a17 f a k17)), some (.inl (Int32.ofNat k17))]) (st' := [.inl (1 : Int32), .inl (y_undr_a17 f a k17)]) (m' := (f, l)) rfl rfl (fl_bo rfl) rfl ?_
          have e0 : (if (r_partOf_v f (Int32.ofNat k17) k17).toInt < a.toInt then (1 : Int32) else (0 : Int32)) = (1 : Int32) := by simp only [if_pos h2]
          rw [e0] at hJ
          exact hJ
        · refine fl_Tq.jt rfl (fl_bo rfl) (c2_ge_t h2) rfl ?_
          refine fl_Tq.cI (c := (0 : Int32)) rfl (by decide +kernel) (fl_bo rfl) ?_
          have e0 : (if (r_partOf_v f (Int32.ofNat k17) k17).toInt < a.toInt then (1 : Int32) else (0 : Int32)) = (0 : Int32) := by simp only [if_neg h2]
          rw [e0] at hJ
          exact hJ
      refine hj191 ?_
      show fl_Tq _ 282 42 [some (.inr (.inr (.inl (76, 277)))), some (.inl a), some (.inl (y_undr_a17 f a k17)), some (.inl (Int32.ofNat k17))] [.inl (if (r_partOf_v f (Int32.ofNat k17) k17).toInt < a.toInt then (1 : Int32) else (0 : Int32)), .inl (y_undr_a17 f a k17)] (f, l) _
      refine fl_Tq.stp (pc' := 43) (lv' := [some (.inr (.inr (.inl (76, 277)))), some (.inl a), some (.inl (y_undr_a17 f a k17)), some (.inl (Int32.ofNat k17))]) (st' := [.inl ((y_undr_a17 f a k17) + (if (r_partOf_v f (Int32.ofNat k17) k17).toInt < a.toInt then (1 : Int32) else (0 : Int32)))]) (m' := (f, l)) rfl rfl (fl_bo rfl) rfl ?_
      refine fl_Tq.stp (pc' := 44) (lv' := [some (.inr (.inr (.inl (76, 277)))), some (.inl a), some (.inl ((y_undr_a17 f a k17) + (if (r_partOf_v f (Int32.ofNat k17) k17).toInt < a.toInt then (1 : Int32) else (0 : Int32)))), some (.inl (Int32.ofNat k17))]) (st' := []) (m' := (f, l)) rfl rfl (fl_bo rfl) rfl ?_
      refine fl_Tq.stp (pc' := 47) (lv' := [some (.inr (.inr (.inl (76, 277)))), some (.inl a), some (.inl ((y_undr_a17 f a k17) + (if (r_partOf_v f (Int32.ofNat k17) k17).toInt < a.toInt then (1 : Int32) else (0 : Int32)))), some (.inl ((Int32.ofNat k17) + (1 : Int32)))]) (st' := []) (m' := (f, l)) rfl rfl (fl_bo rfl) rfl ?_
      refine fl_Tq.stp (pc' := 17) (lv' := [some (.inr (.inr (.inl (76, 277)))), some (.inl a), some (.inl ((y_undr_a17 f a k17) + (if (r_partOf_v f (Int32.ofNat k17) k17).toInt < a.toInt then (1 : Int32) else (0 : Int32)))), some (.inl ((Int32.ofNat k17) + (1 : Int32)))]) (st' := []) (m' := (f, l)) rfl rfl (fl_bo rfl) rfl ?_
      have ea : y_undr_a17 f a (k17 + 1) = (y_undr_a17 f a k17) + (if (r_partOf_v f (Int32.ofNat k17) k17).toInt < a.toInt then (1 : Int32) else (0 : Int32)) := by
        show ((y_undr_a17 f a k17) + (if (r_partOf_v f (Int32.ofNat k17) k17).toInt < a.toInt then (1 : Int32) else (0 : Int32))) = _
        rfl
      rw [ea, ← t2_k1] at hS
      exact hS
    refine t2_for (S := fun k17 => fl_Tq (pw_P L xs) 282 17 [some (.inr (.inr (.inl (76, 277)))), some (.inl a), some (.inl (y_undr_a17 f a k17)), some (.inl (Int32.ofNat k17))] [] (f, l) Q) hs17 ?_
    show fl_Tq (pw_P L xs) 282 17 [some (.inr (.inr (.inl (76, 277)))), some (.inl a), some (.inl (y_undr_a17 f a ((f 280 2).toInt.toNat))), some (.inl (Int32.ofNat ((f 280 2).toInt.toNat)))] [] (f, l) _
    refine fl_Tq.stp (pc' := 18) (lv' := [some (.inr (.inr (.inl (76, 277)))), some (.inl a), some (.inl (y_undr_a17 f a ((f 280 2).toInt.toNat))), some (.inl (Int32.ofNat ((f 280 2).toInt.toNat)))]) (st' := [.inl (Int32.ofNat ((f 280 2).toInt.toNat))]) (m' := (f, l)) rfl rfl (fl_bo rfl) rfl ?_
    refine fl_Tq.stp (pc' := 19) (lv' := [some (.inr (.inr (.inl (76, 277)))), some (.inl a), some (.inl (y_undr_a17 f a ((f 280 2).toInt.toNat))), some (.inl (Int32.ofNat ((f 280 2).toInt.toNat)))]) (st' := [.inr (.inr (.inl (76, 277))), .inl (Int32.ofNat ((f 280 2).toInt.toNat))]) (m' := (f, l)) rfl rfl (fl_bo rfl) rfl ?_
    refine fl_Tq.stp (pc' := 22) (lv' := [some (.inr (.inr (.inl (76, 277)))), some (.inl a), some (.inl (y_undr_a17 f a ((f 280 2).toInt.toNat))), some (.inl (Int32.ofNat ((f 280 2).toInt.toNat)))]) (st' := [.inr (.inr (.inl (79, 280))), .inl (Int32.ofNat ((f 280 2).toInt.toNat))]) (m' := (f, l)) rfl rfl (fl_bo rfl) rfl ?_
    refine fl_Tq.cI (c := (2 : Int32)) rfl (by decide +kernel) (fl_bo rfl) ?_
    refine fl_Tq.ldV (p := 280) (τ := 79) (n := 29780) (z := (0, 0, 0)) (k := 2) (v := f 280 2) rfl (fl_bo rfl) rfl (by decide +kernel) (by decide) rfl ?_
    refine fl_Tq.jt rfl (fl_bo rfl) (c2_ge_t (t2_ln (t2_nn hn.1))) rfl ?_
    refine fl_Tq.stp (pc' := 51) (lv' := [some (.inr (.inr (.inl (76, 277)))), some (.inl a), some (.inl (y_undr_a17 f a ((f 280 2).toInt.toNat))), some (.inl (Int32.ofNat ((f 280 2).toInt.toNat)))]) (st' := [.inl (y_undr_a17 f a ((f 280 2).toInt.toNat))]) (m' := (f, l)) rfl rfl (fl_bo rfl) rfl ?_
    refine fl_Tq.ret rfl rfl rfl ?_
    unfold y_undr_v at k
    simp only [if_neg h1] at k
    exact k
theorem x_undr_e {f : t2_F} {a : Int32} (I : c0_I f f) : x_undr_v f a = y_undr_v f a := by
  have a1 : ∀ k : Nat, k ≤ (f 280 2).toInt.toNat → x_undr_a17 f a k = y_undr_a17 f a k := by
    intro k
    induction k with
    | zero => intro _; rfl
    | succ k ih =>
      intro hk
      show x_undr_a17 f a k + (if (f (18 + 4 * k) 3).toInt < a.toInt then (1 : Int32) else (0 : Int32)) = y_undr_a17 f a k + (if (r_partOf_v f (Int32.ofNat k) k).toInt < a.toInt then (1 : Int32) else (0 : Int32))
      rw [ih (by omega), I.part (by omega) (Int32.ofNat k)]
  unfold x_undr_v y_undr_v
  rw [show (f 1 5) = f 280 2 from I.1.1.1, a1 _ (Nat.le_refl _)]
  rfl
/-! ===== below, on both sides ===== -/
theorem t2_cmp_44 {L : Nat} {xs : Nat → Int32} {f : t2_F} {l : t2_L} {a : Int32} (_hall : ∀ c ∈ at_CM ++ at_CA, at_Valid at_XI (pw_P L xs) c) (hg : t2_Z (f, l)) : fl_Tq (pw_P L xs) 145 0 (fl_args (am_mxl (pw_P L xs) 145) [lx_x, .inl a]) [] (f, l) (t2_End L xs 282 [at_this, .inl a]) := by
  have I : c0_I f f := hg.2.1
  refine t2_qq (y := y_undr_v f a) hg (fun Q k => x_undr_q I.hc ?_) (fun Q k => y_undr_q I.rhu.1 I.rhu.2 k)
  rw [x_undr_e I]
  exact k

end

/-! 95.05.23p47.lean.txt -/
section
noncomputable def x_limit_j6_0 (f : t2_F) (a : Int32) : Int32 := if (t2_within_v a (0 : Int32) (1 : Int32)).toInt = 0 then (-1 : Int32) else (if 0 < (f 1 5).toInt then c0_limitOf_v f a else (-1 : Int32))
theorem x_limit {L : Nat} {xs : Nat → Int32} {f : t2_F} {l : t2_L} {Q : Option fl_V → fl_M → Prop} {a : Int32} (hc : 0 ≤ (f 1 5).toInt ∧ (f 1 5).toInt ≤ 16) (hz : 0 ≤ (f 3 6).toInt ∧ (f 3 6).toInt ≤ 6) (k : Q (some (.inl (x_limit_j6_0 f a))) (f, l)) : fl_Tq (pw_P L xs) 148 0 [some (.inr (.inr (.inl (0, 0)))), some (.inl a)] [] (f, l) Q := by
  refine fl_Tq.stp (pc' := 1) (lv' := [some (.inr (.inr (.inl (0, 0)))), some (.inl a)]) (st' := [.inl a]) (m' := (f, l)) rfl rfl (fl_bo rfl) rfl ?_
  refine fl_Tq.cI (c := (0 : Int32)) rfl (by decide +kernel) (fl_bo rfl) ?_
  refine fl_Tq.cI (c := (1 : Int32)) rfl (by decide +kernel) (fl_bo rfl) ?_
  refine fl_Tq.cal rfl rfl (fl_bo rfl) rfl ?_
  refine t2_within_q  ?_
  show fl_Tq _ 148 6 [some (.inr (.inr (.inl (0, 0)))), some (.inl a)] [.inl (t2_within_v a (0 : Int32) (1 : Int32))] (f, l) _
  have hj190 : fl_Tq (pw_P L xs) 148 31 [some (.inr (.inr (.inl (0, 0)))), some (.inl a)] [.inl (x_limit_j6_0 f a)] (f, l) Q → fl_Tq (pw_P L xs) 148 6 [some (.inr (.inr (.inl (0, 0)))), some (.inl a)] [.inl (t2_within_v a (0 : Int32) (1 : Int32))] (f, l) Q := by
    intro hJ
    by_cases h1 : (t2_within_v a (0 : Int32) (1 : Int32)).toInt = 0
    · refine fl_Tq.zt rfl (fl_bo rfl) (c1_eq_t h1) rfl ?_
      refine fl_Tq.cI (c := (-1 : Int32)) rfl (by decide +kernel) (fl_bo rfl) ?_
      have e0 : (x_limit_j6_0 f a) = (-1 : Int32) := by simp only [x_limit_j6_0, if_pos h1]
      rw [e0] at hJ
      exact hJ
    · refine fl_Tq.zf rfl (fl_bo rfl) (c1_eq_f h1) rfl ?_
      refine fl_Tq.stp (pc' := 10) (lv' := [some (.inr (.inr (.inl (0, 0)))), some (.inl a)]) (st' := [.inr (.inr (.inl (0, 0)))]) (m' := (f, l)) rfl rfl (fl_bo rfl) rfl ?_
      refine fl_Tq.stp (pc' := 13) (lv' := [some (.inr (.inr (.inl (0, 0)))), some (.inl a)]) (st' := [.inr (.inr (.inl (1, 1)))]) (m' := (f, l)) rfl rfl (fl_bo rfl) rfl ?_
      refine fl_Tq.gfV (k := 5) (v := f 1 5) rfl (fl_bo rfl) rfl rfl ?_
      by_cases h2 : 0 < (f 1 5).toInt
      · refine fl_Tq.zf rfl (fl_bo rfl) (c1_le_f h2) rfl ?_
        refine fl_Tq.stp (pc' := 20) (lv' := [some (.inr (.inr (.inl (0, 0)))), some (.inl a)]) (st' := [.inr (.inr (.inl (0, 0)))]) (m' := (f, l)) rfl rfl (fl_bo rfl) rfl ?_
        refine fl_Tq.stp (pc' := 23) (lv' := [some (.inr (.inr (.inl (0, 0)))), some (.inl a)]) (st' := [.inr (.inr (.inl (1, 1)))]) (m' := (f, l)) rfl rfl (fl_bo rfl) rfl ?_
        refine fl_Tq.stp (pc' := 24) (lv' := [some (.inr (.inr (.inl (0, 0)))), some (.inl a)]) (st' := [.inl a, .inr (.inr (.inl (1, 1)))]) (m' := (f, l)) rfl rfl (fl_bo rfl) rfl ?_
        refine fl_Tq.cal rfl rfl (fl_bo rfl) rfl ?_
        refine c0_limitOf_q hc hz ?_
        show fl_Tq _ 148 27 [some (.inr (.inr (.inl (0, 0)))), some (.inl a)] [.inl (c0_limitOf_v f a)] (f, l) _
        refine fl_Tq.stp (pc' := 31) (lv' := [some (.inr (.inr (.inl (0, 0)))), some (.inl a)]) (st' := [.inl (c0_limitOf_v f a)]) (m' := (f, l)) rfl rfl (fl_bo rfl) rfl ?_
        have e0 : (x_limit_j6_0 f a) = c0_limitOf_v f a := by simp only [x_limit_j6_0, if_neg h1, if_pos h2]
        rw [e0] at hJ
        exact hJ
      · refine fl_Tq.zt rfl (fl_bo rfl) (c1_le_t h2) rfl ?_
        refine fl_Tq.cI (c := (-1 : Int32)) rfl (by decide +kernel) (fl_bo rfl) ?_
        have e0 : (x_limit_j6_0 f a) = (-1 : Int32) := by simp only [x_limit_j6_0, if_neg h1, if_neg h2]
        rw [e0] at hJ
        exact hJ
  refine hj190 ?_
  show fl_Tq _ 148 31 [some (.inr (.inr (.inl (0, 0)))), some (.inl a)] [.inl (x_limit_j6_0 f a)] (f, l) _
  exact fl_Tq.ret rfl rfl rfl k
noncomputable def y_limit_j6_0 (f : t2_F) (a : Int32) : Int32 := if (r_isIn_v a (0 : Int32) (1 : Int32)).toInt = 0 then (-1 : Int32) else (if 0 < (f 280 2).toInt then r_limitOf_v f a else (-1 : Int32))
theorem y_limit {L : Nat} {xs : Nat → Int32} {f : t2_F} {l : t2_L} {Q : Option fl_V → fl_M → Prop} {a : Int32} (hn : 0 ≤ (f 280 2).toInt ∧ (f 280 2).toInt ≤ 16) (hr : t2_RS f) (hk : ∀ C : Nat, (C : Int) < (f 280 2).toInt → t2_ck f C) (hz : 0 ≤ (f 280 17).toInt ∧ (f 280 17).toInt ≤ 6) (k : Q (some (.inl (y_limit_j6_0 f a))) (f, l)) : fl_Tq (pw_P L xs) 285 0 [some (.inr (.inr (.inl (76, 277)))), some (.inl a)] [] (f, l) Q := by
  refine fl_Tq.stp (pc' := 1) (lv' := [some (.inr (.inr (.inl (76, 277)))), some (.inl a)]) (st' := [.inl a]) (m' := (f, l)) rfl rfl (fl_bo rfl) rfl ?_
  refine fl_Tq.cI (c := (0 : Int32)) rfl (by decide +kernel) (fl_bo rfl) ?_
  refine fl_Tq.cI (c := (1 : Int32)) rfl (by decide +kernel) (fl_bo rfl) ?_
  refine fl_Tq.cal rfl rfl (fl_bo rfl) rfl ?_
  refine r_isIn_q  ?_
  show fl_Tq _ 285 6 [some (.inr (.inr (.inl (76, 277)))), some (.inl a)] [.inl (r_isIn_v a (0 : Int32) (1 : Int32))] (f, l) _
  have hj191 : fl_Tq (pw_P L xs) 285 27 [some (.inr (.inr (.inl (76, 277)))), some (.inl a)] [.inl (y_limit_j6_0 f a)] (f, l) Q → fl_Tq (pw_P L xs) 285 6 [some (.inr (.inr (.inl (76, 277)))), some (.inl a)] [.inl (r_isIn_v a (0 : Int32) (1 : Int32))] (f, l) Q := by
    intro hJ
    by_cases h1 : (r_isIn_v a (0 : Int32) (1 : Int32)).toInt = 0
    · refine fl_Tq.zt rfl (fl_bo rfl) (c1_eq_t h1) rfl ?_
      refine fl_Tq.cI (c := (-1 : Int32)) rfl (by decide +kernel) (fl_bo rfl) ?_
      have e0 : (y_limit_j6_0 f a) = (-1 : Int32) := by simp only [y_limit_j6_0, if_pos h1]
      rw [e0] at hJ
      exact hJ
    · refine fl_Tq.zf rfl (fl_bo rfl) (c1_eq_f h1) rfl ?_
      refine fl_Tq.stp (pc' := 10) (lv' := [some (.inr (.inr (.inl (76, 277)))), some (.inl a)]) (st' := [.inr (.inr (.inl (76, 277)))]) (m' := (f, l)) rfl rfl (fl_bo rfl) rfl ?_
      refine fl_Tq.stp (pc' := 13) (lv' := [some (.inr (.inr (.inl (76, 277)))), some (.inl a)]) (st' := [.inr (.inr (.inl (79, 280)))]) (m' := (f, l)) rfl rfl (fl_bo rfl) rfl ?_
      refine fl_Tq.cI (c := (2 : Int32)) rfl (by decide +kernel) (fl_bo rfl) ?_
      refine fl_Tq.ldV (p := 280) (τ := 79) (n := 29780) (z := (0, 0, 0)) (k := 2) (v := f 280 2) rfl (fl_bo rfl) rfl (by decide +kernel) (by decide) rfl ?_
      by_cases h2 : 0 < (f 280 2).toInt
      · refine fl_Tq.zf rfl (fl_bo rfl) (c1_le_f h2) rfl ?_
        refine fl_Tq.stp (pc' := 19) (lv' := [some (.inr (.inr (.inl (76, 277)))), some (.inl a)]) (st' := [.inr (.inr (.inl (76, 277)))]) (m' := (f, l)) rfl rfl (fl_bo rfl) rfl ?_
        refine fl_Tq.stp (pc' := 20) (lv' := [some (.inr (.inr (.inl (76, 277)))), some (.inl a)]) (st' := [.inl a, .inr (.inr (.inl (76, 277)))]) (m' := (f, l)) rfl rfl (fl_bo rfl) rfl ?_
        refine fl_Tq.cal rfl rfl (fl_bo rfl) rfl ?_
        refine r_limitOf_q hn hr hk hz ?_
        show fl_Tq _ 285 23 [some (.inr (.inr (.inl (76, 277)))), some (.inl a)] [.inl (r_limitOf_v f a)] (f, l) _
        refine fl_Tq.stp (pc' := 27) (lv' := [some (.inr (.inr (.inl (76, 277)))), some (.inl a)]) (st' := [.inl (r_limitOf_v f a)]) (m' := (f, l)) rfl rfl (fl_bo rfl) rfl ?_
        have e0 : (y_limit_j6_0 f a) = r_limitOf_v f a := by simp only [y_limit_j6_0, if_neg h1, if_pos h2]
        rw [e0] at hJ
        exact hJ
      · refine fl_Tq.zt rfl (fl_bo rfl) (c1_le_t h2) rfl ?_
        refine fl_Tq.cI (c := (-1 : Int32)) rfl (by decide +kernel) (fl_bo rfl) ?_
        have e0 : (y_limit_j6_0 f a) = (-1 : Int32) := by simp only [y_limit_j6_0, if_neg h1, if_neg h2]
        rw [e0] at hJ
        exact hJ
  refine hj191 ?_
  show fl_Tq _ 285 27 [some (.inr (.inr (.inl (76, 277)))), some (.inl a)] [.inl (y_limit_j6_0 f a)] (f, l) _
  exact fl_Tq.ret rfl rfl rfl k
/-! ===== limit, on both sides ===== -/
theorem t2_cmp_47 {L : Nat} {xs : Nat → Int32} {f : t2_F} {l : t2_L} {a : Int32} (_hall : ∀ c ∈ at_CM ++ at_CA, at_Valid at_XI (pw_P L xs) c) (hg : t2_Z (f, l)) : fl_Tq (pw_P L xs) 148 0 (fl_args (am_mxl (pw_P L xs) 148) [lx_x, .inl a]) [] (f, l) (t2_End L xs 285 [at_this, .inl a]) := by
  have I : c0_I f f := hg.2.1
  have e5 : f 1 5 = f 280 2 := I.1.1.1
  have z6 : f 3 6 = f 280 17 := I.2.2.1.1.2.1.1
  have hz : 0 ≤ (f 280 17).toInt ∧ (f 280 17).toInt ≤ 6 := I.2.2.2.2.2.2.2.1.1
  have hr : t2_RS f := t2_Good.RS hg.1
  have e : x_limit_j6_0 f a = y_limit_j6_0 f a := by
    unfold x_limit_j6_0 y_limit_j6_0
    rw [e5, I.rl.limit]
    rfl
  refine t2_qq (y := y_limit_j6_0 f a) hg (fun Q k => x_limit I.hc (by rw [z6]; exact hz) ?_) (fun Q k => y_limit I.rhu.1 hr I.rhu.2 hz k)
  rw [e]
  exact k

end

/-! 95.05.24p48.lean.txt -/
section
noncomputable def x_worst_j6_0 (f : t2_F) (a : Int32) : Int32 := if (t2_within_v a (0 : Int32) (1 : Int32)).toInt = 0 then (-1 : Int32) else c0_worstCell_v f a
theorem x_worst {L : Nat} {xs : Nat → Int32} {f : t2_F} {l : t2_L} {Q : Option fl_V → fl_M → Prop} {a : Int32} (hc : 0 ≤ (f 1 5).toInt ∧ (f 1 5).toInt ≤ 16) (hz : 0 ≤ (f 3 6).toInt ∧ (f 3 6).toInt ≤ 6) (k : Q (some (.inl (x_worst_j6_0 f a))) (f, l)) : fl_Tq (pw_P L xs) 149 0 [some (.inr (.inr (.inl (0, 0)))), some (.inl a)] [] (f, l) Q := by
  refine fl_Tq.stp (pc' := 1) (lv' := [some (.inr (.inr (.inl (0, 0)))), some (.inl a)]) (st' := [.inl a]) (m' := (f, l)) rfl rfl (fl_bo rfl) rfl ?_
  refine fl_Tq.cI (c := (0 : Int32)) rfl (by decide +kernel) (fl_bo rfl) ?_
  refine fl_Tq.cI (c := (1 : Int32)) rfl (by decide +kernel) (fl_bo rfl) ?_
  refine fl_Tq.cal rfl rfl (fl_bo rfl) rfl ?_
  refine t2_within_q  ?_
  show fl_Tq _ 149 6 [some (.inr (.inr (.inl (0, 0)))), some (.inl a)] [.inl (t2_within_v a (0 : Int32) (1 : Int32))] (f, l) _
  have hj190 : fl_Tq (pw_P L xs) 149 21 [some (.inr (.inr (.inl (0, 0)))), some (.inl a)] [.inl (x_worst_j6_0 f a)] (f, l) Q → fl_Tq (pw_P L xs) 149 6 [some (.inr (.inr (.inl (0, 0)))), some (.inl a)] [.inl (t2_within_v a (0 : Int32) (1 : Int32))] (f, l) Q := by
    intro hJ
    by_cases h1 : (t2_within_v a (0 : Int32) (1 : Int32)).toInt = 0
    · refine fl_Tq.zt rfl (fl_bo rfl) (c1_eq_t h1) rfl ?_
      refine fl_Tq.cI (c := (-1 : Int32)) rfl (by decide +kernel) (fl_bo rfl) ?_
      have e0 : (x_worst_j6_0 f a) = (-1 : Int32) := by simp only [x_worst_j6_0, if_pos h1]
      rw [e0] at hJ
      exact hJ
    · refine fl_Tq.zf rfl (fl_bo rfl) (c1_eq_f h1) rfl ?_
      refine fl_Tq.stp (pc' := 10) (lv' := [some (.inr (.inr (.inl (0, 0)))), some (.inl a)]) (st' := [.inr (.inr (.inl (0, 0)))]) (m' := (f, l)) rfl rfl (fl_bo rfl) rfl ?_
      refine fl_Tq.stp (pc' := 13) (lv' := [some (.inr (.inr (.inl (0, 0)))), some (.inl a)]) (st' := [.inr (.inr (.inl (1, 1)))]) (m' := (f, l)) rfl rfl (fl_bo rfl) rfl ?_
      refine fl_Tq.stp (pc' := 14) (lv' := [some (.inr (.inr (.inl (0, 0)))), some (.inl a)]) (st' := [.inl a, .inr (.inr (.inl (1, 1)))]) (m' := (f, l)) rfl rfl (fl_bo rfl) rfl ?_
      refine fl_Tq.cal rfl rfl (fl_bo rfl) rfl ?_
      refine c0_worstCell_q hc hz ?_
      show fl_Tq _ 149 17 [some (.inr (.inr (.inl (0, 0)))), some (.inl a)] [.inl (c0_worstCell_v f a)] (f, l) _
      refine fl_Tq.stp (pc' := 21) (lv' := [some (.inr (.inr (.inl (0, 0)))), some (.inl a)]) (st' := [.inl (c0_worstCell_v f a)]) (m' := (f, l)) rfl rfl (fl_bo rfl) rfl ?_
      have e0 : (x_worst_j6_0 f a) = c0_worstCell_v f a := by simp only [x_worst_j6_0, if_neg h1]
      rw [e0] at hJ
      exact hJ
  refine hj190 ?_
  show fl_Tq _ 149 21 [some (.inr (.inr (.inl (0, 0)))), some (.inl a)] [.inl (x_worst_j6_0 f a)] (f, l) _
  exact fl_Tq.ret rfl rfl rfl k
theorem y_worst {L : Nat} {xs : Nat → Int32} {f : t2_F} {l : t2_L} {Q : Option fl_V → fl_M → Prop} {a : Int32} (hn : 0 ≤ (f 280 2).toInt ∧ (f 280 2).toInt ≤ 16) (hr : t2_RS f) (hk : ∀ C : Nat, (C : Int) < (f 280 2).toInt → t2_ck f C) (hz : 0 ≤ (f 280 17).toInt ∧ (f 280 17).toInt ≤ 6) (k : ((r_isIn_v a (0 : Int32) (1 : Int32)).toInt = 0) → Q (some (.inl (-1 : Int32))) (f, l)) (k1 : (¬ ((r_isIn_v a (0 : Int32) (1 : Int32)).toInt = 0)) → ((f 280 2).toInt = 0) → Q (some (.inl (-1 : Int32))) (f, l)) (k2 : (¬ ((r_isIn_v a (0 : Int32) (1 : Int32)).toInt = 0)) → (¬ ((f 280 2).toInt = 0)) → Q (some (.inl (r_tightest_v f a))) (f, l)) : fl_Tq (pw_P L xs) 286 0 [some (.inr (.inr (.inl (76, 277)))), some (.inl a)] [] (f, l) Q := by
  refine fl_Tq.stp (pc' := 1) (lv' := [some (.inr (.inr (.inl (76, 277)))), some (.inl a)]) (st' := [.inl a]) (m' := (f, l)) rfl rfl (fl_bo rfl) rfl ?_
  refine fl_Tq.cI (c := (0 : Int32)) rfl (by decide +kernel) (fl_bo rfl) ?_
  refine fl_Tq.cI (c := (1 : Int32)) rfl (by decide +kernel) (fl_bo rfl) ?_
  refine fl_Tq.cal rfl rfl (fl_bo rfl) rfl ?_
  refine r_isIn_q  ?_
  show fl_Tq _ 286 6 [some (.inr (.inr (.inl (76, 277)))), some (.inl a)] [.inl (r_isIn_v a (0 : Int32) (1 : Int32))] (f, l) _
  by_cases h1 : (r_isIn_v a (0 : Int32) (1 : Int32)).toInt = 0
  · refine fl_Tq.zt rfl (fl_bo rfl) (c1_eq_t h1) rfl ?_
    refine fl_Tq.cI (c := (-1 : Int32)) rfl (by decide +kernel) (fl_bo rfl) ?_
    exact fl_Tq.ret rfl rfl rfl (k h1)
  · refine fl_Tq.zf rfl (fl_bo rfl) (c1_eq_f h1) rfl ?_
    refine fl_Tq.stp (pc' := 10) (lv' := [some (.inr (.inr (.inl (76, 277)))), some (.inl a)]) (st' := [.inr (.inr (.inl (76, 277)))]) (m' := (f, l)) rfl rfl (fl_bo rfl) rfl ?_
    refine fl_Tq.stp (pc' := 13) (lv' := [some (.inr (.inr (.inl (76, 277)))), some (.inl a)]) (st' := [.inr (.inr (.inl (79, 280)))]) (m' := (f, l)) rfl rfl (fl_bo rfl) rfl ?_
    refine fl_Tq.cI (c := (2 : Int32)) rfl (by decide +kernel) (fl_bo rfl) ?_
    refine fl_Tq.ldV (p := 280) (τ := 79) (n := 29780) (z := (0, 0, 0)) (k := 2) (v := f 280 2) rfl (fl_bo rfl) rfl (by decide +kernel) (by decide) rfl ?_
    by_cases h2 : (f 280 2).toInt = 0
    · refine fl_Tq.zf rfl (fl_bo rfl) (c1_ne_f h2) rfl ?_
      refine fl_Tq.cI (c := (-1 : Int32)) rfl (by decide +kernel) (fl_bo rfl) ?_
      exact fl_Tq.ret rfl rfl rfl (k1 h1 h2)
    · refine fl_Tq.zt rfl (fl_bo rfl) (c1_ne_t h2) rfl ?_
      refine fl_Tq.stp (pc' := 21) (lv' := [some (.inr (.inr (.inl (76, 277)))), some (.inl a)]) (st' := [.inr (.inr (.inl (76, 277)))]) (m' := (f, l)) rfl rfl (fl_bo rfl) rfl ?_
      refine fl_Tq.stp (pc' := 22) (lv' := [some (.inr (.inr (.inl (76, 277)))), some (.inl a)]) (st' := [.inl a, .inr (.inr (.inl (76, 277)))]) (m' := (f, l)) rfl rfl (fl_bo rfl) rfl ?_
      refine fl_Tq.cal rfl rfl (fl_bo rfl) rfl ?_
      refine r_tightest_q hn hr hk hz ?_
      show fl_Tq _ 286 25 [some (.inr (.inr (.inl (76, 277)))), some (.inl a)] [.inl (r_tightest_v f a)] (f, l) _
      exact fl_Tq.ret rfl rfl rfl (k2 h1 h2)
/-! ===== worst, on both sides ===== -/
theorem t2_cmp_48 {L : Nat} {xs : Nat → Int32} {f : t2_F} {l : t2_L} {a : Int32} (_hall : ∀ c ∈ at_CM ++ at_CA, at_Valid at_XI (pw_P L xs) c) (hg : t2_Z (f, l)) : fl_Tq (pw_P L xs) 149 0 (fl_args (am_mxl (pw_P L xs) 149) [lx_x, .inl a]) [] (f, l) (t2_End L xs 286 [at_this, .inl a]) := by
  have I : c0_I f f := hg.2.1
  have e5 : f 1 5 = f 280 2 := I.1.1.1
  have z6 : f 3 6 = f 280 17 := I.2.2.1.1.2.1.1
  have hz : 0 ≤ (f 280 17).toInt ∧ (f 280 17).toInt ≤ 6 := I.2.2.2.2.2.2.2.1.1
  have hr : t2_RS f := t2_Good.RS hg.1
  refine t2_qq (y := x_worst_j6_0 f a) hg (fun Q k => x_worst I.hc (by rw [z6]; exact hz) k) (fun Q k => y_worst I.rhu.1 hr I.rhu.2 hz (fun h1 => ?_) (fun h1 h2 => ?_) (fun h1 h2 => ?_))
  · have e : x_worst_j6_0 f a = (-1 : Int32) := if_pos h1
    rw [e] at k
    exact k
  · have e : x_worst_j6_0 f a = (-1 : Int32) := by
      refine (if_neg h1).trans ?_
      rw [I.rl.worst.1]
      rcases I.rl.worst (x := a) with ⟨-, ⟨-, h⟩ | ⟨j, hj, -⟩⟩
      · exact h
      · omega
    rw [e] at k
    exact k
  · have e : x_worst_j6_0 f a = r_tightest_v f a := (if_neg h1).trans I.rl.worst.1
    rw [e] at k
    exact k

end

/-! 95.05.25p49.lean.txt -/
section
theorem x_spread {L : Nat} {xs : Nat → Int32} {f : t2_F} {l : t2_L} {Q : Option fl_V → fl_M → Prop}  (hc : 0 ≤ (f 1 5).toInt ∧ (f 1 5).toInt ≤ 16) (k : Q (some (.inl (c0_partSpread_v f))) (f, l)) : fl_Tq (pw_P L xs) 150 0 [some (.inr (.inr (.inl (0, 0))))] [] (f, l) Q := by
  refine fl_Tq.stp (pc' := 1) (lv' := [some (.inr (.inr (.inl (0, 0))))]) (st' := [.inr (.inr (.inl (0, 0)))]) (m' := (f, l)) rfl rfl (fl_bo rfl) rfl ?_
  refine fl_Tq.stp (pc' := 4) (lv' := [some (.inr (.inr (.inl (0, 0))))]) (st' := [.inr (.inr (.inl (1, 1)))]) (m' := (f, l)) rfl rfl (fl_bo rfl) rfl ?_
  refine fl_Tq.cal rfl rfl (fl_bo rfl) rfl ?_
  refine c0_partSpread_q hc ?_
  show fl_Tq _ 150 7 [some (.inr (.inr (.inl (0, 0))))] [.inl (c0_partSpread_v f)] (f, l) _
  exact fl_Tq.ret rfl rfl rfl k
noncomputable def y_spread_j6_0 (f : t2_F)  : Int32 := if (f 280 2).toInt = 0 then (-1 : Int32) else r_spreadOf_v f
theorem y_spread {L : Nat} {xs : Nat → Int32} {f : t2_F} {l : t2_L} {Q : Option fl_V → fl_M → Prop}  (hn : 0 ≤ (f 280 2).toInt ∧ (f 280 2).toInt ≤ 16) (hk : ∀ C : Nat, (C : Int) < (f 280 2).toInt → t2_ck f C) (k : Q (some (.inl (y_spread_j6_0 f))) (f, l)) : fl_Tq (pw_P L xs) 287 0 [some (.inr (.inr (.inl (76, 277))))] [] (f, l) Q := by
  refine fl_Tq.stp (pc' := 1) (lv' := [some (.inr (.inr (.inl (76, 277))))]) (st' := [.inr (.inr (.inl (76, 277)))]) (m' := (f, l)) rfl rfl (fl_bo rfl) rfl ?_
  refine fl_Tq.stp (pc' := 4) (lv' := [some (.inr (.inr (.inl (76, 277))))]) (st' := [.inr (.inr (.inl (79, 280)))]) (m' := (f, l)) rfl rfl (fl_bo rfl) rfl ?_
  refine fl_Tq.cI (c := (2 : Int32)) rfl (by decide +kernel) (fl_bo rfl) ?_
  refine fl_Tq.ldV (p := 280) (τ := 79) (n := 29780) (z := (0, 0, 0)) (k := 2) (v := f 280 2) rfl (fl_bo rfl) rfl (by decide +kernel) (by decide) rfl ?_
  have hj190 : fl_Tq (pw_P L xs) 287 17 [some (.inr (.inr (.inl (76, 277))))] [.inl (y_spread_j6_0 f)] (f, l) Q → fl_Tq (pw_P L xs) 287 6 [some (.inr (.inr (.inl (76, 277))))] [.inl (f 280 2)] (f, l) Q := by
    intro hJ
    by_cases h1 : (f 280 2).toInt = 0
    · refine fl_Tq.zf rfl (fl_bo rfl) (c1_ne_f h1) rfl ?_
      refine fl_Tq.cI (c := (-1 : Int32)) rfl (by decide +kernel) (fl_bo rfl) ?_
      refine fl_Tq.stp (pc' := 17) (lv' := [some (.inr (.inr (.inl (76, 277))))]) (st' := [.inl (-1 : Int32)]) (m' := (f, l)) rfl rfl (fl_bo rfl) rfl ?_
      have e0 : (y_spread_j6_0 f) = (-1 : Int32) := by simp only [y_spread_j6_0, if_pos h1]
      rw [e0] at hJ
      exact hJ
    · refine fl_Tq.zt rfl (fl_bo rfl) (c1_ne_t h1) rfl ?_
      refine fl_Tq.stp (pc' := 14) (lv' := [some (.inr (.inr (.inl (76, 277))))]) (st' := [.inr (.inr (.inl (76, 277)))]) (m' := (f, l)) rfl rfl (fl_bo rfl) rfl ?_
      refine fl_Tq.cal rfl rfl (fl_bo rfl) rfl ?_
      refine r_spreadOf_q hn hk ?_
      show fl_Tq _ 287 17 [some (.inr (.inr (.inl (76, 277))))] [.inl (r_spreadOf_v f)] (f, l) _
      have e0 : (y_spread_j6_0 f) = r_spreadOf_v f := by simp only [y_spread_j6_0, if_neg h1]
      rw [e0] at hJ
      exact hJ
  refine hj190 ?_
  show fl_Tq _ 287 17 [some (.inr (.inr (.inl (76, 277))))] [.inl (y_spread_j6_0 f)] (f, l) _
  exact fl_Tq.ret rfl rfl rfl k
/-! ===== spread, on both sides ===== -/
theorem t2_cmp_49 {L : Nat} {xs : Nat → Int32} {f : t2_F} {l : t2_L} (_hall : ∀ c ∈ at_CM ++ at_CA, at_Valid at_XI (pw_P L xs) c) (hg : t2_Z (f, l)) : fl_Tq (pw_P L xs) 150 0 (fl_args (am_mxl (pw_P L xs) 150) [lx_x]) [] (f, l) (t2_End L xs 287 [at_this]) := by
  have I : c0_I f f := hg.2.1
  have e : c0_partSpread_v f = y_spread_j6_0 f := by
    obtain ⟨n1, n2, n3⟩ := I.cnt
    rw [c0_spread_eq n3 n1 (fun C hC => (I.cell hC).1.1.2.1.1)]
    unfold y_spread_j6_0
    by_cases h : (f 280 2).toInt = 0
    · rw [if_pos h, if_pos (by omega)]
    · rw [if_neg h, if_neg (by omega)]
  refine t2_qq (y := y_spread_j6_0 f) hg (fun Q k => x_spread I.hc ?_) (fun Q k => y_spread I.rhu.1 I.rhu.2 k)
  rw [e]
  exact k

end

/-! 95.05.26p50.lean.txt -/
section
theorem x_may01 {f : t2_F} {a : Int32} : c0_couldReset_v f a = 0 ∨ c0_couldReset_v f a = 1 := by
  unfold c0_couldReset_v
  repeat' split
  all_goals first | exact Or.inl rfl | exact Or.inr rfl
theorem x_mayReset {L : Nat} {xs : Nat → Int32} {f : t2_F} {l : t2_L} {Q : Option fl_V → fl_M → Prop} {a : Int32}  (k : fl_Tq (pw_P L xs) 151 8 [some (.inr (.inr (.inl (0, 0)))), some (.inl a)] [.inl (c0_couldReset_v f a)] (f, l) Q) : fl_Tq (pw_P L xs) 151 0 [some (.inr (.inr (.inl (0, 0)))), some (.inl a)] [] (f, l) Q := by
  refine fl_Tq.stp (pc' := 1) (lv' := [some (.inr (.inr (.inl (0, 0)))), some (.inl a)]) (st' := [.inr (.inr (.inl (0, 0)))]) (m' := (f, l)) rfl rfl (fl_bo rfl) rfl ?_
  refine fl_Tq.stp (pc' := 4) (lv' := [some (.inr (.inr (.inl (0, 0)))), some (.inl a)]) (st' := [.inr (.inr (.inl (1, 1)))]) (m' := (f, l)) rfl rfl (fl_bo rfl) rfl ?_
  refine fl_Tq.stp (pc' := 5) (lv' := [some (.inr (.inr (.inl (0, 0)))), some (.inl a)]) (st' := [.inl a, .inr (.inr (.inl (1, 1)))]) (m' := (f, l)) rfl rfl (fl_bo rfl) rfl ?_
  refine fl_Tq.cal rfl rfl (fl_bo rfl) rfl ?_
  refine c0_couldReset_q  ?_
  show fl_Tq _ 151 8 [some (.inr (.inr (.inl (0, 0)))), some (.inl a)] [.inl (c0_couldReset_v f a)] (f, l) _
  exact k
/-! ===== mayReset, on both sides ===== -/
theorem t2_cmp_50 {L : Nat} {xs : Nat → Int32} {f : t2_F} {l : t2_L} {a : Int32} (_hall : ∀ c ∈ at_CM ++ at_CA, at_Valid at_XI (pw_P L xs) c) (hg : t2_Z (f, l)) : fl_Tq (pw_P L xs) 151 0 (fl_args (am_mxl (pw_P L xs) 151) [lx_x, .inl a]) [] (f, l) (t2_End L xs 253 [at_this, .inl a]) := by
  have I : c0_I f f := hg.2.1
  exact t2_qq (y := c0_couldReset_v f a) hg (fun Q k => x_mayReset (fl_Tq.ret rfl rfl (if_pos x_may01) k)) (fun Q k => r_may_q I k)

end

/-! 95.05.27p51.lean.txt -/
section
theorem x_when_A {L : Nat} {xs : Nat → Int32} {f : t2_F} {l : t2_L} {Q : Option fl_V → fl_M → Prop} {a : Int32}  (k : ((t2_within_v a (0 : Int32) (10 : Int32)).toInt = 0) → Q (some (.inl (-1 : Int32))) (f, l)) (k1 : (¬ ((t2_within_v a (0 : Int32) (10 : Int32)).toInt = 0)) → fl_Tq (pw_P L xs) 152 10 [some (.inr (.inr (.inl (0, 0)))), some (.inl a)] [] (f, l) Q) : fl_Tq (pw_P L xs) 152 0 [some (.inr (.inr (.inl (0, 0)))), some (.inl a)] [] (f, l) Q := by
  refine fl_Tq.stp (pc' := 1) (lv' := [some (.inr (.inr (.inl (0, 0)))), some (.inl a)]) (st' := [.inl a]) (m' := (f, l)) rfl rfl (fl_bo rfl) rfl ?_
  refine fl_Tq.cI (c := (0 : Int32)) rfl (by decide +kernel) (fl_bo rfl) ?_
  refine fl_Tq.cB (c := (10 : Int32)) rfl (by decide +kernel) (fl_bo rfl) ?_
  refine fl_Tq.cal rfl rfl (fl_bo rfl) rfl ?_
  refine t2_within_q  ?_
  show fl_Tq _ 152 7 [some (.inr (.inr (.inl (0, 0)))), some (.inl a)] [.inl (t2_within_v a (0 : Int32) (10 : Int32))] (f, l) _
  by_cases h1 : (t2_within_v a (0 : Int32) (10 : Int32)).toInt = 0
  · refine fl_Tq.zt rfl (fl_bo rfl) (c1_eq_t h1) rfl ?_
    refine fl_Tq.cI (c := (-1 : Int32)) rfl (by decide +kernel) (fl_bo rfl) ?_
    exact fl_Tq.ret rfl rfl rfl (k h1)
  · refine fl_Tq.zf rfl (fl_bo rfl) (c1_eq_f h1) rfl ?_
    exact k1 h1
theorem x_when_B {L : Nat} {xs : Nat → Int32} {f : t2_F} {l : t2_L} {Q : Option fl_V → fl_M → Prop} {a : Int32} {A : Nat} (hA : a.toInt = (A : Int)) (hA1 : A < 11) (k : Q (some (.inl (f 11 A))) (f, l)) : fl_Tq (pw_P L xs) 152 10 [some (.inr (.inr (.inl (0, 0)))), some (.inl a)] [] (f, l) Q := by
  refine fl_Tq.stp (pc' := 11) (lv' := [some (.inr (.inr (.inl (0, 0)))), some (.inl a)]) (st' := [.inr (.inr (.inl (0, 0)))]) (m' := (f, l)) rfl rfl (fl_bo rfl) rfl ?_
  refine fl_Tq.stp (pc' := 14) (lv' := [some (.inr (.inr (.inl (0, 0)))), some (.inl a)]) (st' := [.inr (.inr (.inl (1, 1)))]) (m' := (f, l)) rfl rfl (fl_bo rfl) rfl ?_
  refine fl_Tq.stp (pc' := 17) (lv' := [some (.inr (.inr (.inl (0, 0)))), some (.inl a)]) (st' := [.inr (.inr (.inl (10, 10)))]) (m' := (f, l)) rfl rfl (fl_bo rfl) rfl ?_
  refine fl_Tq.stp (pc' := 20) (lv' := [some (.inr (.inr (.inl (0, 0)))), some (.inl a)]) (st' := [.inr (.inr (.inl (11, 11)))]) (m' := (f, l)) rfl rfl (fl_bo rfl) rfl ?_
  refine fl_Tq.stp (pc' := 21) (lv' := [some (.inr (.inr (.inl (0, 0)))), some (.inl a)]) (st' := [.inl a, .inr (.inr (.inl (11, 11)))]) (m' := (f, l)) rfl rfl (fl_bo rfl) rfl ?_
  refine fl_Tq.ldV (p := 11) (τ := 11) (n := 11) (z := (0, 0, 0)) (k := A) (v := f 11 A) rfl (fl_bo rfl) rfl hA hA1 rfl ?_
  refine fl_Tq.stp (pc' := 26) (lv' := [some (.inr (.inr (.inl (0, 0)))), some (.inl a)]) (st' := [.inl (f 11 A)]) (m' := (f, l)) rfl rfl (fl_bo rfl) rfl ?_
  exact fl_Tq.ret rfl rfl rfl k
theorem y_when_A {L : Nat} {xs : Nat → Int32} {f : t2_F} {l : t2_L} {Q : Option fl_V → fl_M → Prop} {a : Int32}  (k : ((r_isIn_v a (0 : Int32) (10 : Int32)).toInt = 0) → Q (some (.inl (-1 : Int32))) (f, l)) (k1 : (¬ ((r_isIn_v a (0 : Int32) (10 : Int32)).toInt = 0)) → fl_Tq (pw_P L xs) 288 10 [some (.inr (.inr (.inl (76, 277)))), some (.inl a)] [] (f, l) Q) : fl_Tq (pw_P L xs) 288 0 [some (.inr (.inr (.inl (76, 277)))), some (.inl a)] [] (f, l) Q := by
  refine fl_Tq.stp (pc' := 1) (lv' := [some (.inr (.inr (.inl (76, 277)))), some (.inl a)]) (st' := [.inl a]) (m' := (f, l)) rfl rfl (fl_bo rfl) rfl ?_
  refine fl_Tq.cI (c := (0 : Int32)) rfl (by decide +kernel) (fl_bo rfl) ?_
  refine fl_Tq.cB (c := (10 : Int32)) rfl (by decide +kernel) (fl_bo rfl) ?_
  refine fl_Tq.cal rfl rfl (fl_bo rfl) rfl ?_
  refine r_isIn_q  ?_
  show fl_Tq _ 288 7 [some (.inr (.inr (.inl (76, 277)))), some (.inl a)] [.inl (r_isIn_v a (0 : Int32) (10 : Int32))] (f, l) _
  by_cases h1 : (r_isIn_v a (0 : Int32) (10 : Int32)).toInt = 0
  · refine fl_Tq.zt rfl (fl_bo rfl) (c1_eq_t h1) rfl ?_
    refine fl_Tq.cI (c := (-1 : Int32)) rfl (by decide +kernel) (fl_bo rfl) ?_
    exact fl_Tq.ret rfl rfl rfl (k h1)
  · refine fl_Tq.zf rfl (fl_bo rfl) (c1_eq_f h1) rfl ?_
    exact k1 h1
theorem y_when_B {L : Nat} {xs : Nat → Int32} {f : t2_F} {l : t2_L} {Q : Option fl_V → fl_M → Prop} {a : Int32} {A : Nat} (hA : a.toInt = (A : Int)) (hA1 : A < 11) (k : Q (some (.inl (f 280 (23 + A)))) (f, l)) : fl_Tq (pw_P L xs) 288 10 [some (.inr (.inr (.inl (76, 277)))), some (.inl a)] [] (f, l) Q := by
  refine fl_Tq.stp (pc' := 11) (lv' := [some (.inr (.inr (.inl (76, 277)))), some (.inl a)]) (st' := [.inr (.inr (.inl (76, 277)))]) (m' := (f, l)) rfl rfl (fl_bo rfl) rfl ?_
  refine fl_Tq.stp (pc' := 14) (lv' := [some (.inr (.inr (.inl (76, 277)))), some (.inl a)]) (st' := [.inr (.inr (.inl (79, 280)))]) (m' := (f, l)) rfl rfl (fl_bo rfl) rfl ?_
  refine fl_Tq.cB (c := (23 : Int32)) rfl (by decide +kernel) (fl_bo rfl) ?_
  refine fl_Tq.stp (pc' := 17) (lv' := [some (.inr (.inr (.inl (76, 277)))), some (.inl a)]) (st' := [.inl a, .inl (23 : Int32), .inr (.inr (.inl (79, 280)))]) (m' := (f, l)) rfl rfl (fl_bo rfl) rfl ?_
  refine fl_Tq.stp (pc' := 18) (lv' := [some (.inr (.inr (.inl (76, 277)))), some (.inl a)]) (st' := [.inl ((23 : Int32) + a), .inr (.inr (.inl (79, 280)))]) (m' := (f, l)) rfl rfl (fl_bo rfl) rfl ?_
  refine fl_Tq.ldV (p := 280) (τ := 79) (n := 29780) (z := (0, 0, 0)) (k := 23 + A) (v := f 280 (23 + A)) rfl (fl_bo rfl) rfl (t2_ia (by decide +kernel) hA (by omega)) (by omega) rfl ?_
  refine fl_Tq.stp (pc' := 23) (lv' := [some (.inr (.inr (.inl (76, 277)))), some (.inl a)]) (st' := [.inl (f 280 (23 + A))]) (m' := (f, l)) rfl rfl (fl_bo rfl) rfl ?_
  exact fl_Tq.ret rfl rfl rfl k
/-! ===== when, on both sides ===== -/
theorem t2_cmp_51 {L : Nat} {xs : Nat → Int32} {f : t2_F} {l : t2_L} {a : Int32} (_hall : ∀ c ∈ at_CM ++ at_CA, at_Valid at_XI (pw_P L xs) c) (hg : t2_Z (f, l)) : fl_Tq (pw_P L xs) 152 0 (fl_args (am_mxl (pw_P L xs) 152) [lx_x, .inl a]) [] (f, l) (t2_End L xs 288 [at_this, .inl a]) := by
  have I : c0_I f f := hg.2.1
  have c0 : (0 : Int32).toInt = 0 := rfl
  have ct : (10 : Int32).toInt = 10 := by decide +kernel
  by_cases h : 0 ≤ a.toInt ∧ a.toInt ≤ 10
  · obtain ⟨A, hA⟩ := t2_nat h.1
    have hA1 : A < 11 := by omega
    have e : f 11 A = f 280 (23 + A) := I.2.2.1.2.1.2.1 A hA1
    refine t2_qq (y := f 280 (23 + A)) hg (fun Q k => ?_) (fun Q k => ?_)
    · show fl_Tq (pw_P L xs) 152 0 [some (.inr (.inr (.inl (0, 0)))), some (.inl a)] [] (f, l) Q
      refine x_when_A (fun h1 => ?_) (fun _ => x_when_B hA hA1 ?_)
      · rw [t2_w0, c0, ct] at h1
        exact absurd h h1
      · rw [e]
        exact k
    · show fl_Tq (pw_P L xs) 288 0 [some (.inr (.inr (.inl (76, 277)))), some (.inl a)] [] (f, l) Q
      refine y_when_A (fun h1 => ?_) (fun _ => y_when_B hA hA1 k)
      rw [r_i0, c0, ct] at h1
      exact absurd h h1
  · refine t2_qq (y := (-1 : Int32)) hg (fun Q k => ?_) (fun Q k => ?_)
    · show fl_Tq (pw_P L xs) 152 0 [some (.inr (.inr (.inl (0, 0)))), some (.inl a)] [] (f, l) Q
      refine x_when_A (fun _ => k) (fun h1 => ?_)
      rw [t2_w0, c0, ct] at h1
      exact absurd h h1
    · show fl_Tq (pw_P L xs) 288 0 [some (.inr (.inr (.inl (76, 277)))), some (.inl a)] [] (f, l) Q
      refine y_when_A (fun _ => k) (fun h1 => ?_)
      rw [r_i0, c0, ct] at h1
      exact absurd h h1

end

/-! 95.05.28p52.lean.txt -/
section
theorem x_book_B {L : Nat} {xs : Nat → Int32} {f : t2_F} {l : t2_L} {Q : Option fl_V → fl_M → Prop} {a b z : Int32}  (k : Q (some (.inl z)) (f, l)) : fl_Tq (pw_P L xs) 153 39 [some (.inr (.inr (.inl (0, 0)))), some (.inl a), some (.inl b)] [.inl z] (f, l) Q := by
  exact fl_Tq.ret rfl rfl rfl k
theorem x_book_A {L : Nat} {xs : Nat → Int32} {f : t2_F} {l : t2_L} {Q : Option fl_V → fl_M → Prop} {a b : Int32}  (k : (a.toInt = (-1 : Int32).toInt) → Q (some (.inl (f 13 3))) (f, l)) (k1 : (¬ (a.toInt = (-1 : Int32).toInt)) → fl_Tq (pw_P L xs) 153 36 [some (.inr (.inr (.inl (0, 0)))), some (.inl a), some (.inl b)] [.inl (-2 : Int32), .inl (2 : Int32), .inl b, .inl a, .inr (.inr (.inl (13, 13)))] (f, l) Q) : fl_Tq (pw_P L xs) 153 0 [some (.inr (.inr (.inl (0, 0)))), some (.inl a), some (.inl b)] [] (f, l) Q := by
  refine fl_Tq.stp (pc' := 1) (lv' := [some (.inr (.inr (.inl (0, 0)))), some (.inl a), some (.inl b)]) (st' := [.inl a]) (m' := (f, l)) rfl rfl (fl_bo rfl) rfl ?_
  refine fl_Tq.cI (c := (-1 : Int32)) rfl (by decide +kernel) (fl_bo rfl) ?_
  by_cases h1 : a.toInt = (-1 : Int32).toInt
  · refine fl_Tq.jf rfl (fl_bo rfl) (c2_ne_f h1) rfl ?_
    refine fl_Tq.stp (pc' := 6) (lv' := [some (.inr (.inr (.inl (0, 0)))), some (.inl a), some (.inl b)]) (st' := [.inr (.inr (.inl (0, 0)))]) (m' := (f, l)) rfl rfl (fl_bo rfl) rfl ?_
    refine fl_Tq.stp (pc' := 9) (lv' := [some (.inr (.inr (.inl (0, 0)))), some (.inl a), some (.inl b)]) (st' := [.inr (.inr (.inl (1, 1)))]) (m' := (f, l)) rfl rfl (fl_bo rfl) rfl ?_
    refine fl_Tq.stp (pc' := 12) (lv' := [some (.inr (.inr (.inl (0, 0)))), some (.inl a), some (.inl b)]) (st' := [.inr (.inr (.inl (10, 10)))]) (m' := (f, l)) rfl rfl (fl_bo rfl) rfl ?_
    refine fl_Tq.stp (pc' := 15) (lv' := [some (.inr (.inr (.inl (0, 0)))), some (.inl a), some (.inl b)]) (st' := [.inr (.inr (.inl (13, 13)))]) (m' := (f, l)) rfl rfl (fl_bo rfl) rfl ?_
    refine fl_Tq.gfV (k := 3) (v := f 13 3) rfl (fl_bo rfl) rfl rfl ?_
    refine fl_Tq.stp (pc' := 39) (lv' := [some (.inr (.inr (.inl (0, 0)))), some (.inl a), some (.inl b)]) (st' := [.inl (f 13 3)]) (m' := (f, l)) rfl rfl (fl_bo rfl) rfl ?_
    exact fl_Tq.ret rfl rfl rfl (k h1)
  · refine fl_Tq.jt rfl (fl_bo rfl) (c2_ne_t h1) rfl ?_
    refine fl_Tq.stp (pc' := 22) (lv' := [some (.inr (.inr (.inl (0, 0)))), some (.inl a), some (.inl b)]) (st' := [.inr (.inr (.inl (0, 0)))]) (m' := (f, l)) rfl rfl (fl_bo rfl) rfl ?_
    refine fl_Tq.stp (pc' := 25) (lv' := [some (.inr (.inr (.inl (0, 0)))), some (.inl a), some (.inl b)]) (st' := [.inr (.inr (.inl (1, 1)))]) (m' := (f, l)) rfl rfl (fl_bo rfl) rfl ?_
    refine fl_Tq.stp (pc' := 28) (lv' := [some (.inr (.inr (.inl (0, 0)))), some (.inl a), some (.inl b)]) (st' := [.inr (.inr (.inl (10, 10)))]) (m' := (f, l)) rfl rfl (fl_bo rfl) rfl ?_
    refine fl_Tq.stp (pc' := 31) (lv' := [some (.inr (.inr (.inl (0, 0)))), some (.inl a), some (.inl b)]) (st' := [.inr (.inr (.inl (13, 13)))]) (m' := (f, l)) rfl rfl (fl_bo rfl) rfl ?_
    refine fl_Tq.stp (pc' := 32) (lv' := [some (.inr (.inr (.inl (0, 0)))), some (.inl a), some (.inl b)]) (st' := [.inl a, .inr (.inr (.inl (13, 13)))]) (m' := (f, l)) rfl rfl (fl_bo rfl) rfl ?_
    refine fl_Tq.stp (pc' := 33) (lv' := [some (.inr (.inr (.inl (0, 0)))), some (.inl a), some (.inl b)]) (st' := [.inl b, .inl a, .inr (.inr (.inl (13, 13)))]) (m' := (f, l)) rfl rfl (fl_bo rfl) rfl ?_
    refine fl_Tq.cI (c := (2 : Int32)) rfl (by decide +kernel) (fl_bo rfl) ?_
    refine fl_Tq.cB (c := (-2 : Int32)) rfl (by decide +kernel) (fl_bo rfl) ?_
    exact k1 h1
theorem x_line_A {L : Nat} {xs : Nat → Int32} {f : t2_F} {l : t2_L} {Q : Option fl_V → fl_M → Prop} {a b c d : Int32}  (k : ((t2_within_v a (0 : Int32) ((f 13 3) - (1 : Int32))).toInt = 0) → Q (some (.inl d)) (f, l)) (k1 : (¬ ((t2_within_v a (0 : Int32) ((f 13 3) - (1 : Int32))).toInt = 0)) → ((t2_within_v b (0 : Int32) (c - (1 : Int32))).toInt = 0) → Q (some (.inl d)) (f, l)) (k2 : (¬ ((t2_within_v a (0 : Int32) ((f 13 3) - (1 : Int32))).toInt = 0)) → (¬ ((t2_within_v b (0 : Int32) (c - (1 : Int32))).toInt = 0)) → fl_Tq (pw_P L xs) 28 28 [some (.inr (.inr (.inl (13, 13)))), some (.inl a), some (.inl b), some (.inl c), some (.inl d)] [] (f, l) Q) : fl_Tq (pw_P L xs) 28 0 [some (.inr (.inr (.inl (13, 13)))), some (.inl a), some (.inl b), some (.inl c), some (.inl d)] [] (f, l) Q := by
  refine fl_Tq.stp (pc' := 1) (lv' := [some (.inr (.inr (.inl (13, 13)))), some (.inl a), some (.inl b), some (.inl c), some (.inl d)]) (st' := [.inl a]) (m' := (f, l)) rfl rfl (fl_bo rfl) rfl ?_
  refine fl_Tq.cI (c := (0 : Int32)) rfl (by decide +kernel) (fl_bo rfl) ?_
  refine fl_Tq.stp (pc' := 3) (lv' := [some (.inr (.inr (.inl (13, 13)))), some (.inl a), some (.inl b), some (.inl c), some (.inl d)]) (st' := [.inr (.inr (.inl (13, 13))), .inl (0 : Int32), .inl a]) (m' := (f, l)) rfl rfl (fl_bo rfl) rfl ?_
  refine fl_Tq.gfV (k := 3) (v := f 13 3) rfl (fl_bo rfl) rfl rfl ?_
  refine fl_Tq.cI (c := (1 : Int32)) rfl (by decide +kernel) (fl_bo rfl) ?_
  refine fl_Tq.stp (pc' := 8) (lv' := [some (.inr (.inr (.inl (13, 13)))), some (.inl a), some (.inl b), some (.inl c), some (.inl d)]) (st' := [.inl ((f 13 3) - (1 : Int32)), .inl (0 : Int32), .inl a]) (m' := (f, l)) rfl rfl (fl_bo rfl) rfl ?_
  refine fl_Tq.cal rfl rfl (fl_bo rfl) rfl ?_
  refine t2_within_q  ?_
  show fl_Tq _ 28 11 [some (.inr (.inr (.inl (13, 13)))), some (.inl a), some (.inl b), some (.inl c), some (.inl d)] [.inl (t2_within_v a (0 : Int32) ((f 13 3) - (1 : Int32)))] (f, l) _
  by_cases h1 : (t2_within_v a (0 : Int32) ((f 13 3) - (1 : Int32))).toInt = 0
  · refine fl_Tq.zt rfl (fl_bo rfl) (c1_eq_t h1) rfl ?_
    refine fl_Tq.stp (pc' := 27) (lv' := [some (.inr (.inr (.inl (13, 13)))), some (.inl a), some (.inl b), some (.inl c), some (.inl d)]) (st' := [.inl d]) (m' := (f, l)) rfl rfl (fl_bo rfl) rfl ?_
    exact fl_Tq.ret rfl rfl rfl (k h1)
  · refine fl_Tq.zf rfl (fl_bo rfl) (c1_eq_f h1) rfl ?_
    refine fl_Tq.stp (pc' := 15) (lv' := [some (.inr (.inr (.inl (13, 13)))), some (.inl a), some (.inl b), some (.inl c), some (.inl d)]) (st' := [.inl b]) (m' := (f, l)) rfl rfl (fl_bo rfl) rfl ?_
    refine fl_Tq.cI (c := (0 : Int32)) rfl (by decide +kernel) (fl_bo rfl) ?_
    refine fl_Tq.stp (pc' := 17) (lv' := [some (.inr (.inr (.inl (13, 13)))), some (.inl a), some (.inl b), some (.inl c), some (.inl d)]) (st' := [.inl c, .inl (0 : Int32), .inl b]) (m' := (f, l)) rfl rfl (fl_bo rfl) rfl ?_
    refine fl_Tq.cI (c := (1 : Int32)) rfl (by decide +kernel) (fl_bo rfl) ?_
    refine fl_Tq.stp (pc' := 19) (lv' := [some (.inr (.inr (.inl (13, 13)))), some (.inl a), some (.inl b), some (.inl c), some (.inl d)]) (st' := [.inl (c - (1 : Int32)), .inl (0 : Int32), .inl b]) (m' := (f, l)) rfl rfl (fl_bo rfl) rfl ?_
    refine fl_Tq.cal rfl rfl (fl_bo rfl) rfl ?_
    refine t2_within_q  ?_
    show fl_Tq _ 28 22 [some (.inr (.inr (.inl (13, 13)))), some (.inl a), some (.inl b), some (.inl c), some (.inl d)] [.inl (t2_within_v b (0 : Int32) (c - (1 : Int32)))] (f, l) _
    by_cases h2 : (t2_within_v b (0 : Int32) (c - (1 : Int32))).toInt = 0
    · refine fl_Tq.zf rfl (fl_bo rfl) (c1_ne_f h2) rfl ?_
      refine fl_Tq.stp (pc' := 27) (lv' := [some (.inr (.inr (.inl (13, 13)))), some (.inl a), some (.inl b), some (.inl c), some (.inl d)]) (st' := [.inl d]) (m' := (f, l)) rfl rfl (fl_bo rfl) rfl ?_
      exact fl_Tq.ret rfl rfl rfl (k1 h1 h2)
    · refine fl_Tq.zt rfl (fl_bo rfl) (c1_ne_t h2) rfl ?_
      exact k2 h1 h2
theorem x_line_B {L : Nat} {xs : Nat → Int32} {f : t2_F} {l : t2_L} {Q : Option fl_V → fl_M → Prop} {a b c d : Int32}  (k : fl_Tq (pw_P L xs) 28 34 [some (.inr (.inr (.inl (13, 13)))), some (.inl a), some (.inl b), some (.inl c), some (.inl d)] [.inl a, .inr (.inr (.inl (13, 13))), .inr (.inr (.inl (14, 14)))] (f, l) Q) : fl_Tq (pw_P L xs) 28 28 [some (.inr (.inr (.inl (13, 13)))), some (.inl a), some (.inl b), some (.inl c), some (.inl d)] [] (f, l) Q := by
  refine fl_Tq.stp (pc' := 29) (lv' := [some (.inr (.inr (.inl (13, 13)))), some (.inl a), some (.inl b), some (.inl c), some (.inl d)]) (st' := [.inr (.inr (.inl (13, 13)))]) (m' := (f, l)) rfl rfl (fl_bo rfl) rfl ?_
  refine fl_Tq.stp (pc' := 32) (lv' := [some (.inr (.inr (.inl (13, 13)))), some (.inl a), some (.inl b), some (.inl c), some (.inl d)]) (st' := [.inr (.inr (.inl (14, 14)))]) (m' := (f, l)) rfl rfl (fl_bo rfl) rfl ?_
  refine fl_Tq.stp (pc' := 33) (lv' := [some (.inr (.inr (.inl (13, 13)))), some (.inl a), some (.inl b), some (.inl c), some (.inl d)]) (st' := [.inr (.inr (.inl (13, 13))), .inr (.inr (.inl (14, 14)))]) (m' := (f, l)) rfl rfl (fl_bo rfl) rfl ?_
  refine fl_Tq.stp (pc' := 34) (lv' := [some (.inr (.inr (.inl (13, 13)))), some (.inl a), some (.inl b), some (.inl c), some (.inl d)]) (st' := [.inl a, .inr (.inr (.inl (13, 13))), .inr (.inr (.inl (14, 14)))]) (m' := (f, l)) rfl rfl (fl_bo rfl) rfl ?_
  exact k
theorem x_line_C {L : Nat} {xs : Nat → Int32} {f : t2_F} {l : t2_L} {Q : Option fl_V → fl_M → Prop} {a b c d z : Int32} {A B : Nat} (hA : z.toInt = (A : Int)) (hA1 : A < 24) (hB : b.toInt = (B : Int)) (hB1 : B < 2) (k : Q (some (.inl (f 14 (A * 3 + B)))) (f, l)) : fl_Tq (pw_P L xs) 28 37 [some (.inr (.inr (.inl (13, 13)))), some (.inl a), some (.inl b), some (.inl c), some (.inl d)] [.inl z, .inr (.inr (.inl (14, 14)))] (f, l) Q := by
  refine fl_Tq.cI (c := (3 : Int32)) rfl (by decide +kernel) (fl_bo rfl) ?_
  refine fl_Tq.stp (pc' := 39) (lv' := [some (.inr (.inr (.inl (13, 13)))), some (.inl a), some (.inl b), some (.inl c), some (.inl d)]) (st' := [.inl (z * (3 : Int32)), .inr (.inr (.inl (14, 14)))]) (m' := (f, l)) rfl rfl (fl_bo rfl) rfl ?_
  refine fl_Tq.stp (pc' := 40) (lv' := [some (.inr (.inr (.inl (13, 13)))), some (.inl a), some (.inl b), some (.inl c), some (.inl d)]) (st' := [.inl b, .inl (z * (3 : Int32)), .inr (.inr (.inl (14, 14)))]) (m' := (f, l)) rfl rfl (fl_bo rfl) rfl ?_
  refine fl_Tq.stp (pc' := 41) (lv' := [some (.inr (.inr (.inl (13, 13)))), some (.inl a), some (.inl b), some (.inl c), some (.inl d)]) (st' := [.inl ((z * (3 : Int32)) + b), .inr (.inr (.inl (14, 14)))]) (m' := (f, l)) rfl rfl (fl_bo rfl) rfl ?_
  refine fl_Tq.ldV (p := 14) (τ := 14) (n := 72) (z := (0, 0, 0)) (k := A * 3 + B) (v := f 14 (A * 3 + B)) rfl (fl_bo rfl) rfl (t2_mc (M := 3) (by decide +kernel) (by decide) hA hB (by omega) (by omega)) (by omega) rfl ?_
  exact fl_Tq.ret rfl rfl rfl k
theorem y_book_A {L : Nat} {xs : Nat → Int32} {f : t2_F} {l : t2_L} {Q : Option fl_V → fl_M → Prop} {a b : Int32}  (k : (a.toInt = (-1 : Int32).toInt) → Q (some (.inl (f 280 20))) (f, l)) (k1 : (¬ (a.toInt = (-1 : Int32).toInt)) → ((r_isIn_v a (0 : Int32) ((f 280 20) - (1 : Int32))).toInt = 0) → Q (some (.inl (-2 : Int32))) (f, l)) (k2 : (¬ (a.toInt = (-1 : Int32).toInt)) → (¬ ((r_isIn_v a (0 : Int32) ((f 280 20) - (1 : Int32))).toInt = 0)) → ((r_isIn_v b (0 : Int32) (1 : Int32)).toInt = 0) → Q (some (.inl (-2 : Int32))) (f, l)) (k3 : (¬ (a.toInt = (-1 : Int32).toInt)) → (¬ ((r_isIn_v a (0 : Int32) ((f 280 20) - (1 : Int32))).toInt = 0)) → (¬ ((r_isIn_v b (0 : Int32) (1 : Int32)).toInt = 0)) → fl_Tq (pw_P L xs) 289 39 [some (.inr (.inr (.inl (76, 277)))), some (.inl a), some (.inl b)] [] (f, l) Q) : fl_Tq (pw_P L xs) 289 0 [some (.inr (.inr (.inl (76, 277)))), some (.inl a), some (.inl b)] [] (f, l) Q := by
  refine fl_Tq.stp (pc' := 1) (lv' := [some (.inr (.inr (.inl (76, 277)))), some (.inl a), some (.inl b)]) (st' := [.inl a]) (m' := (f, l)) rfl rfl (fl_bo rfl) rfl ?_
  refine fl_Tq.cI (c := (-1 : Int32)) rfl (by decide +kernel) (fl_bo rfl) ?_
  by_cases h1 : a.toInt = (-1 : Int32).toInt
  · refine fl_Tq.jf rfl (fl_bo rfl) (c2_ne_f h1) rfl ?_
    refine fl_Tq.stp (pc' := 6) (lv' := [some (.inr (.inr (.inl (76, 277)))), some (.inl a), some (.inl b)]) (st' := [.inr (.inr (.inl (76, 277)))]) (m' := (f, l)) rfl rfl (fl_bo rfl) rfl ?_
    refine fl_Tq.stp (pc' := 9) (lv' := [some (.inr (.inr (.inl (76, 277)))), some (.inl a), some (.inl b)]) (st' := [.inr (.inr (.inl (79, 280)))]) (m' := (f, l)) rfl rfl (fl_bo rfl) rfl ?_
    refine fl_Tq.cB (c := (20 : Int32)) rfl (by decide +kernel) (fl_bo rfl) ?_
    refine fl_Tq.ldV (p := 280) (τ := 79) (n := 29780) (z := (0, 0, 0)) (k := 20) (v := f 280 20) rfl (fl_bo rfl) rfl (by decide +kernel) (by decide) rfl ?_
    exact fl_Tq.ret rfl rfl rfl (k h1)
  · refine fl_Tq.jt rfl (fl_bo rfl) (c2_ne_t h1) rfl ?_
    refine fl_Tq.stp (pc' := 14) (lv' := [some (.inr (.inr (.inl (76, 277)))), some (.inl a), some (.inl b)]) (st' := [.inl a]) (m' := (f, l)) rfl rfl (fl_bo rfl) rfl ?_
    refine fl_Tq.cI (c := (0 : Int32)) rfl (by decide +kernel) (fl_bo rfl) ?_
    refine fl_Tq.stp (pc' := 16) (lv' := [some (.inr (.inr (.inl (76, 277)))), some (.inl a), some (.inl b)]) (st' := [.inr (.inr (.inl (76, 277))), .inl (0 : Int32), .inl a]) (m' := (f, l)) rfl rfl (fl_bo rfl) rfl ?_
    refine fl_Tq.stp (pc' := 19) (lv' := [some (.inr (.inr (.inl (76, 277)))), some (.inl a), some (.inl b)]) (st' := [.inr (.inr (.inl (79, 280))), .inl (0 : Int32), .inl a]) (m' := (f, l)) rfl rfl (fl_bo rfl) rfl ?_
    refine fl_Tq.cB (c := (20 : Int32)) rfl (by decide +kernel) (fl_bo rfl) ?_
    refine fl_Tq.ldV (p := 280) (τ := 79) (n := 29780) (z := (0, 0, 0)) (k := 20) (v := f 280 20) rfl (fl_bo rfl) rfl (by decide +kernel) (by decide) rfl ?_
    refine fl_Tq.cI (c := (1 : Int32)) rfl (by decide +kernel) (fl_bo rfl) ?_
    refine fl_Tq.stp (pc' := 24) (lv' := [some (.inr (.inr (.inl (76, 277)))), some (.inl a), some (.inl b)]) (st' := [.inl ((f 280 20) - (1 : Int32)), .inl (0 : Int32), .inl a]) (m' := (f, l)) rfl rfl (fl_bo rfl) rfl ?_
    refine fl_Tq.cal rfl rfl (fl_bo rfl) rfl ?_
    refine r_isIn_q  ?_
    show fl_Tq _ 289 27 [some (.inr (.inr (.inl (76, 277)))), some (.inl a), some (.inl b)] [.inl (r_isIn_v a (0 : Int32) ((f 280 20) - (1 : Int32)))] (f, l) _
    by_cases h2 : (r_isIn_v a (0 : Int32) ((f 280 20) - (1 : Int32))).toInt = 0
    · refine fl_Tq.zt rfl (fl_bo rfl) (c1_eq_t h2) rfl ?_
      refine fl_Tq.cB (c := (-2 : Int32)) rfl (by decide +kernel) (fl_bo rfl) ?_
      exact fl_Tq.ret rfl rfl rfl (k1 h1 h2)
    · refine fl_Tq.zf rfl (fl_bo rfl) (c1_eq_f h2) rfl ?_
      refine fl_Tq.stp (pc' := 31) (lv' := [some (.inr (.inr (.inl (76, 277)))), some (.inl a), some (.inl b)]) (st' := [.inl b]) (m' := (f, l)) rfl rfl (fl_bo rfl) rfl ?_
      refine fl_Tq.cI (c := (0 : Int32)) rfl (by decide +kernel) (fl_bo rfl) ?_
      refine fl_Tq.cI (c := (1 : Int32)) rfl (by decide +kernel) (fl_bo rfl) ?_
      refine fl_Tq.cal rfl rfl (fl_bo rfl) rfl ?_
      refine r_isIn_q  ?_
      show fl_Tq _ 289 36 [some (.inr (.inr (.inl (76, 277)))), some (.inl a), some (.inl b)] [.inl (r_isIn_v b (0 : Int32) (1 : Int32))] (f, l) _
      by_cases h3 : (r_isIn_v b (0 : Int32) (1 : Int32)).toInt = 0
      · refine fl_Tq.zt rfl (fl_bo rfl) (c1_eq_t h3) rfl ?_
        refine fl_Tq.cB (c := (-2 : Int32)) rfl (by decide +kernel) (fl_bo rfl) ?_
        exact fl_Tq.ret rfl rfl rfl (k2 h1 h2 h3)
      · refine fl_Tq.zf rfl (fl_bo rfl) (c1_eq_f h3) rfl ?_
        exact k3 h1 h2 h3
theorem y_book_B {L : Nat} {xs : Nat → Int32} {f : t2_F} {l : t2_L} {Q : Option fl_V → fl_M → Prop} {a b : Int32} {A B : Nat} (hA : a.toInt = (A : Int)) (hA1 : A < 24) (hB : b.toInt = (B : Int)) (hB1 : B < 2) (k : Q (some (.inl (f 280 (167 + 2 * A + B)))) (f, l)) : fl_Tq (pw_P L xs) 289 39 [some (.inr (.inr (.inl (76, 277)))), some (.inl a), some (.inl b)] [] (f, l) Q := by
  refine fl_Tq.stp (pc' := 40) (lv' := [some (.inr (.inr (.inl (76, 277)))), some (.inl a), some (.inl b)]) (st' := [.inr (.inr (.inl (76, 277)))]) (m' := (f, l)) rfl rfl (fl_bo rfl) rfl ?_
  refine fl_Tq.stp (pc' := 43) (lv' := [some (.inr (.inr (.inl (76, 277)))), some (.inl a), some (.inl b)]) (st' := [.inr (.inr (.inl (79, 280)))]) (m' := (f, l)) rfl rfl (fl_bo rfl) rfl ?_
  refine fl_Tq.cS (c := (167 : Int32)) rfl (by decide +kernel) (fl_bo rfl) ?_
  refine fl_Tq.cI (c := (2 : Int32)) rfl (by decide +kernel) (fl_bo rfl) ?_
  refine fl_Tq.stp (pc' := 48) (lv' := [some (.inr (.inr (.inl (76, 277)))), some (.inl a), some (.inl b)]) (st' := [.inl a, .inl (2 : Int32), .inl (167 : Int32), .inr (.inr (.inl (79, 280)))]) (m' := (f, l)) rfl rfl (fl_bo rfl) rfl ?_
  refine fl_Tq.stp (pc' := 49) (lv' := [some (.inr (.inr (.inl (76, 277)))), some (.inl a), some (.inl b)]) (st' := [.inl ((2 : Int32) * a), .inl (167 : Int32), .inr (.inr (.inl (79, 280)))]) (m' := (f, l)) rfl rfl (fl_bo rfl) rfl ?_
  refine fl_Tq.stp (pc' := 50) (lv' := [some (.inr (.inr (.inl (76, 277)))), some (.inl a), some (.inl b)]) (st' := [.inl ((167 : Int32) + ((2 : Int32) * a)), .inr (.inr (.inl (79, 280)))]) (m' := (f, l)) rfl rfl (fl_bo rfl) rfl ?_
  refine fl_Tq.stp (pc' := 51) (lv' := [some (.inr (.inr (.inl (76, 277)))), some (.inl a), some (.inl b)]) (st' := [.inl b, .inl ((167 : Int32) + ((2 : Int32) * a)), .inr (.inr (.inl (79, 280)))]) (m' := (f, l)) rfl rfl (fl_bo rfl) rfl ?_
  refine fl_Tq.stp (pc' := 52) (lv' := [some (.inr (.inr (.inl (76, 277)))), some (.inl a), some (.inl b)]) (st' := [.inl (((167 : Int32) + ((2 : Int32) * a)) + b), .inr (.inr (.inl (79, 280)))]) (m' := (f, l)) rfl rfl (fl_bo rfl) rfl ?_
  refine fl_Tq.ldV (p := 280) (τ := 79) (n := 29780) (z := (0, 0, 0)) (k := 167 + 2 * A + B) (v := f 280 (167 + 2 * A + B)) rfl (fl_bo rfl) rfl (t2_mr (M := 2) (K := 167) (by decide +kernel) (by decide +kernel) (by decide) (by decide) hA hB (by omega) (by omega)) (by omega) rfl ?_
  refine fl_Tq.stp (pc' := 58) (lv' := [some (.inr (.inr (.inl (76, 277)))), some (.inl a), some (.inl b)]) (st' := [.inl (f 280 (167 + 2 * A + B))]) (m' := (f, l)) rfl rfl (fl_bo rfl) rfl ?_
  exact fl_Tq.ret rfl rfl rfl k
/-! ===== book, on both sides ===== -/
theorem t2_cmp_52 {L : Nat} {xs : Nat → Int32} {f : t2_F} {l : t2_L} {a b : Int32} (_hall : ∀ c ∈ at_CM ++ at_CA, at_Valid at_XI (pw_P L xs) c) (hg : t2_Z (f, l)) : fl_Tq (pw_P L xs) 153 0 (fl_args (am_mxl (pw_P L xs) 153) [lx_x, .inl a, .inl b]) [] (f, l) (t2_End L xs 289 [at_this, .inl a, .inl b]) := by
  have I : c0_I f f := hg.2.1
  have c0 : (0 : Int32).toInt = 0 := rfl
  have c1 : (1 : Int32).toInt = 1 := by decide +kernel
  have c21 : ((2 : Int32) - (1 : Int32)).toInt = 1 := by decide +kernel
  have cm : (-1 : Int32).toInt = -1 := by decide +kernel
  obtain ⟨z0, zF, z, hn, zz⟩ : c0_Bk f f := I.2.2.1.2.1.2.2.2
  have ed : (f 280 20 - (1 : Int32)).toInt = (f 280 20).toInt - 1 := t2_dec (by omega)
  by_cases hN : a.toInt = -1
  · refine t2_qq (y := f 280 20) hg (fun Q k => ?_) (fun Q k => ?_)
    · show fl_Tq (pw_P L xs) 153 0 [some (.inr (.inr (.inl (0, 0)))), some (.inl a), some (.inl b)] [] (f, l) Q
      exact x_book_A (fun _ => by rw [z]; exact k) (fun h => absurd (hN.trans cm.symm) h)
    · show fl_Tq (pw_P L xs) 289 0 [some (.inr (.inr (.inl (76, 277)))), some (.inl a), some (.inl b)] [] (f, l) Q
      refine y_book_A (fun _ => k) (fun h => ?_) (fun h => ?_) (fun h => ?_) <;> exact absurd (hN.trans cm.symm) h
  by_cases h : (0 ≤ a.toInt ∧ a.toInt ≤ (f 280 20).toInt - 1) ∧ 0 ≤ b.toInt ∧ b.toInt ≤ 1
  · obtain ⟨A, hA⟩ := t2_nat h.1.1
    obtain ⟨B, hB⟩ := t2_nat h.2.1
    have hA1 : A < 24 := by omega
    have hB1 : B < 2 := by omega
    have hp := c0_bplace z0 zF hA (by omega)
    have hp1 : t2_pl 24 (f 13 2).toInt.toNat A < 24 := t2_pl_lt (by omega) (by omega)
    have e : f 14 (t2_pl 24 (f 13 2).toInt.toNat A * 3 + B) = f 280 (167 + 2 * A + B) := by
      have := zz A (by omega)
      rcases (by omega : B = 0 ∨ B = 1) with rfl | rfl
      · exact this.1
      · exact this.2
    refine t2_qq (y := f 280 (167 + 2 * A + B)) hg (fun Q k => ?_) (fun Q k => ?_)
    · show fl_Tq (pw_P L xs) 153 0 [some (.inr (.inr (.inl (0, 0)))), some (.inl a), some (.inl b)] [] (f, l) Q
      refine x_book_A (fun h1 => absurd (h1.trans cm) hN) (fun _ => ?_)
      refine fl_Tq.cal rfl rfl (fl_bo rfl) rfl ?_
      show fl_Tq (pw_P L xs) 28 0 [some (.inr (.inr (.inl (13, 13)))), some (.inl a), some (.inl b), some (.inl (2 : Int32)), some (.inl (-2 : Int32))] [] (f, l) _
      refine x_line_A (fun h1 => ?_) (fun _ h1 => ?_) (fun _ _ => x_line_B ?_)
      · rw [t2_w0, z, c0, ed] at h1
        exact absurd h.1 h1
      · rw [t2_w0, c0, c21] at h1
        exact absurd h.2 h1
      · refine fl_Tq.cal rfl rfl (fl_bo rfl) rfl ?_
        refine c0_bplace_q ?_
        refine x_line_C hp hp1 hB hB1 ?_
        rw [e]
        exact x_book_B k
    · show fl_Tq (pw_P L xs) 289 0 [some (.inr (.inr (.inl (76, 277)))), some (.inl a), some (.inl b)] [] (f, l) Q
      refine y_book_A (fun h1 => ?_) (fun _ h1 => ?_) (fun _ _ h1 => ?_) (fun _ _ _ => y_book_B hA hA1 hB hB1 k)
      · exact absurd (h1.trans cm) hN
      · rw [r_i0, c0, ed] at h1
        exact absurd h.1 h1
      · rw [r_i0, c0, c1] at h1
        exact absurd h.2 h1
  · refine t2_qq (y := (-2 : Int32)) hg (fun Q k => ?_) (fun Q k => ?_)
    · show fl_Tq (pw_P L xs) 153 0 [some (.inr (.inr (.inl (0, 0)))), some (.inl a), some (.inl b)] [] (f, l) Q
      refine x_book_A (fun h1 => absurd (h1.trans cm) hN) (fun _ => ?_)
      refine fl_Tq.cal rfl rfl (fl_bo rfl) rfl ?_
      show fl_Tq (pw_P L xs) 28 0 [some (.inr (.inr (.inl (13, 13)))), some (.inl a), some (.inl b), some (.inl (2 : Int32)), some (.inl (-2 : Int32))] [] (f, l) _
      refine x_line_A (fun _ => x_book_B k) (fun _ _ => x_book_B k) (fun h1 h2 => ?_)
      rw [t2_w0, z, c0, ed, Classical.not_not] at h1
      rw [t2_w0, c0, c21, Classical.not_not] at h2
      exact absurd ⟨h1, h2⟩ h
    · show fl_Tq (pw_P L xs) 289 0 [some (.inr (.inr (.inl (76, 277)))), some (.inl a), some (.inl b)] [] (f, l) Q
      refine y_book_A (fun h1 => absurd (h1.trans cm) hN) (fun _ _ => k) (fun _ _ _ => k) (fun _ h1 h2 => ?_)
      rw [r_i0, c0, ed, Classical.not_not] at h1
      rw [r_i0, c0, c1, Classical.not_not] at h2
      exact absurd ⟨h1, h2⟩ h

end

/-! 95.05.29p53.lean.txt -/
section
theorem x_driveOf_A {L : Nat} {xs : Nat → Int32} {f : t2_F} {l : t2_L} {Q : Option fl_V → fl_M → Prop} {a b : Int32}  (k : ((t2_within_v a (0 : Int32) ((f 3 7) - (1 : Int32))).toInt = 0) → Q (some (.inl (-1000000000 : Int32))) (f, l)) (k1 : (¬ ((t2_within_v a (0 : Int32) ((f 3 7) - (1 : Int32))).toInt = 0)) → ((t2_within_v b (0 : Int32) (1 : Int32)).toInt = 0) → Q (some (.inl (-1000000000 : Int32))) (f, l)) (k2 : (¬ ((t2_within_v a (0 : Int32) ((f 3 7) - (1 : Int32))).toInt = 0)) → (¬ ((t2_within_v b (0 : Int32) (1 : Int32)).toInt = 0)) → fl_Tq (pw_P L xs) 154 32 [some (.inr (.inr (.inl (0, 0)))), some (.inl a), some (.inl b)] [] (f, l) Q) : fl_Tq (pw_P L xs) 154 0 [some (.inr (.inr (.inl (0, 0)))), some (.inl a), some (.inl b)] [] (f, l) Q := by
  refine fl_Tq.stp (pc' := 1) (lv' := [some (.inr (.inr (.inl (0, 0)))), some (.inl a), some (.inl b)]) (st' := [.inl a]) (m' := (f, l)) rfl rfl (fl_bo rfl) rfl ?_
  refine fl_Tq.cI (c := (0 : Int32)) rfl (by decide +kernel) (fl_bo rfl) ?_
  refine fl_Tq.stp (pc' := 3) (lv' := [some (.inr (.inr (.inl (0, 0)))), some (.inl a), some (.inl b)]) (st' := [.inr (.inr (.inl (0, 0))), .inl (0 : Int32), .inl a]) (m' := (f, l)) rfl rfl (fl_bo rfl) rfl ?_
  refine fl_Tq.stp (pc' := 6) (lv' := [some (.inr (.inr (.inl (0, 0)))), some (.inl a), some (.inl b)]) (st' := [.inr (.inr (.inl (1, 1))), .inl (0 : Int32), .inl a]) (m' := (f, l)) rfl rfl (fl_bo rfl) rfl ?_
  refine fl_Tq.stp (pc' := 9) (lv' := [some (.inr (.inr (.inl (0, 0)))), some (.inl a), some (.inl b)]) (st' := [.inr (.inr (.inl (3, 3))), .inl (0 : Int32), .inl a]) (m' := (f, l)) rfl rfl (fl_bo rfl) rfl ?_
  refine fl_Tq.gfV (k := 7) (v := f 3 7) rfl (fl_bo rfl) rfl rfl ?_
  refine fl_Tq.cI (c := (1 : Int32)) rfl (by decide +kernel) (fl_bo rfl) ?_
  refine fl_Tq.stp (pc' := 14) (lv' := [some (.inr (.inr (.inl (0, 0)))), some (.inl a), some (.inl b)]) (st' := [.inl ((f 3 7) - (1 : Int32)), .inl (0 : Int32), .inl a]) (m' := (f, l)) rfl rfl (fl_bo rfl) rfl ?_
  refine fl_Tq.cal rfl rfl (fl_bo rfl) rfl ?_
  refine t2_within_q  ?_
  show fl_Tq _ 154 17 [some (.inr (.inr (.inl (0, 0)))), some (.inl a), some (.inl b)] [.inl (t2_within_v a (0 : Int32) ((f 3 7) - (1 : Int32)))] (f, l) _
  by_cases h1 : (t2_within_v a (0 : Int32) ((f 3 7) - (1 : Int32))).toInt = 0
  · refine fl_Tq.zt rfl (fl_bo rfl) (c1_eq_t h1) rfl ?_
    refine fl_Tq.stp (pc' := 31) (lv' := [some (.inr (.inr (.inl (0, 0)))), some (.inl a), some (.inl b)]) (st' := [.inl (-1000000000 : Int32)]) (m' := (f, l)) rfl rfl (fl_bo rfl) rfl ?_
    exact fl_Tq.ret rfl rfl rfl (k h1)
  · refine fl_Tq.zf rfl (fl_bo rfl) (c1_eq_f h1) rfl ?_
    refine fl_Tq.stp (pc' := 21) (lv' := [some (.inr (.inr (.inl (0, 0)))), some (.inl a), some (.inl b)]) (st' := [.inl b]) (m' := (f, l)) rfl rfl (fl_bo rfl) rfl ?_
    refine fl_Tq.cI (c := (0 : Int32)) rfl (by decide +kernel) (fl_bo rfl) ?_
    refine fl_Tq.cI (c := (1 : Int32)) rfl (by decide +kernel) (fl_bo rfl) ?_
    refine fl_Tq.cal rfl rfl (fl_bo rfl) rfl ?_
    refine t2_within_q  ?_
    show fl_Tq _ 154 26 [some (.inr (.inr (.inl (0, 0)))), some (.inl a), some (.inl b)] [.inl (t2_within_v b (0 : Int32) (1 : Int32))] (f, l) _
    by_cases h2 : (t2_within_v b (0 : Int32) (1 : Int32)).toInt = 0
    · refine fl_Tq.zf rfl (fl_bo rfl) (c1_ne_f h2) rfl ?_
      refine fl_Tq.stp (pc' := 31) (lv' := [some (.inr (.inr (.inl (0, 0)))), some (.inl a), some (.inl b)]) (st' := [.inl (-1000000000 : Int32)]) (m' := (f, l)) rfl rfl (fl_bo rfl) rfl ?_
      exact fl_Tq.ret rfl rfl rfl (k1 h1 h2)
    · refine fl_Tq.zt rfl (fl_bo rfl) (c1_ne_t h2) rfl ?_
      exact k2 h1 h2
theorem x_driveOf_B {L : Nat} {xs : Nat → Int32} {f : t2_F} {l : t2_L} {Q : Option fl_V → fl_M → Prop} {a b : Int32} {A B : Nat} (hA : a.toInt = (A : Int)) (hA1 : A < 24) (hB : b.toInt = (B : Int)) (hB1 : B < 2) (k : Q (some (.inl (f 8 (A * 2 + B)))) (f, l)) : fl_Tq (pw_P L xs) 154 32 [some (.inr (.inr (.inl (0, 0)))), some (.inl a), some (.inl b)] [] (f, l) Q := by
  refine fl_Tq.stp (pc' := 33) (lv' := [some (.inr (.inr (.inl (0, 0)))), some (.inl a), some (.inl b)]) (st' := [.inr (.inr (.inl (0, 0)))]) (m' := (f, l)) rfl rfl (fl_bo rfl) rfl ?_
  refine fl_Tq.stp (pc' := 36) (lv' := [some (.inr (.inr (.inl (0, 0)))), some (.inl a), some (.inl b)]) (st' := [.inr (.inr (.inl (1, 1)))]) (m' := (f, l)) rfl rfl (fl_bo rfl) rfl ?_
  refine fl_Tq.stp (pc' := 39) (lv' := [some (.inr (.inr (.inl (0, 0)))), some (.inl a), some (.inl b)]) (st' := [.inr (.inr (.inl (3, 3)))]) (m' := (f, l)) rfl rfl (fl_bo rfl) rfl ?_
  refine fl_Tq.stp (pc' := 42) (lv' := [some (.inr (.inr (.inl (0, 0)))), some (.inl a), some (.inl b)]) (st' := [.inr (.inr (.inl (8, 8)))]) (m' := (f, l)) rfl rfl (fl_bo rfl) rfl ?_
  refine fl_Tq.stp (pc' := 43) (lv' := [some (.inr (.inr (.inl (0, 0)))), some (.inl a), some (.inl b)]) (st' := [.inl a, .inr (.inr (.inl (8, 8)))]) (m' := (f, l)) rfl rfl (fl_bo rfl) rfl ?_
  refine fl_Tq.cI (c := (2 : Int32)) rfl (by decide +kernel) (fl_bo rfl) ?_
  refine fl_Tq.stp (pc' := 45) (lv' := [some (.inr (.inr (.inl (0, 0)))), some (.inl a), some (.inl b)]) (st' := [.inl (a * (2 : Int32)), .inr (.inr (.inl (8, 8)))]) (m' := (f, l)) rfl rfl (fl_bo rfl) rfl ?_
  refine fl_Tq.stp (pc' := 46) (lv' := [some (.inr (.inr (.inl (0, 0)))), some (.inl a), some (.inl b)]) (st' := [.inl b, .inl (a * (2 : Int32)), .inr (.inr (.inl (8, 8)))]) (m' := (f, l)) rfl rfl (fl_bo rfl) rfl ?_
  refine fl_Tq.stp (pc' := 47) (lv' := [some (.inr (.inr (.inl (0, 0)))), some (.inl a), some (.inl b)]) (st' := [.inl ((a * (2 : Int32)) + b), .inr (.inr (.inl (8, 8)))]) (m' := (f, l)) rfl rfl (fl_bo rfl) rfl ?_
  refine fl_Tq.ldV (p := 8) (τ := 8) (n := 48) (z := (0, 0, 0)) (k := A * 2 + B) (v := f 8 (A * 2 + B)) rfl (fl_bo rfl) rfl (t2_mc (M := 2) (by decide +kernel) (by decide) hA hB (by omega) (by omega)) (by omega) rfl ?_
  exact fl_Tq.ret rfl rfl rfl k
theorem y_driveOf_A {L : Nat} {xs : Nat → Int32} {f : t2_F} {l : t2_L} {Q : Option fl_V → fl_M → Prop} {a b : Int32}  (k : ((r_isIn_v a (0 : Int32) ((f 280 19) - (1 : Int32))).toInt = 0) → Q (some (.inl (-1000000000 : Int32))) (f, l)) (k1 : (¬ ((r_isIn_v a (0 : Int32) ((f 280 19) - (1 : Int32))).toInt = 0)) → ((r_isIn_v b (0 : Int32) (1 : Int32)).toInt = 0) → Q (some (.inl (-1000000000 : Int32))) (f, l)) (k2 : (¬ ((r_isIn_v a (0 : Int32) ((f 280 19) - (1 : Int32))).toInt = 0)) → (¬ ((r_isIn_v b (0 : Int32) (1 : Int32)).toInt = 0)) → fl_Tq (pw_P L xs) 290 26 [some (.inr (.inr (.inl (76, 277)))), some (.inl a), some (.inl b)] [] (f, l) Q) : fl_Tq (pw_P L xs) 290 0 [some (.inr (.inr (.inl (76, 277)))), some (.inl a), some (.inl b)] [] (f, l) Q := by
  refine fl_Tq.stp (pc' := 1) (lv' := [some (.inr (.inr (.inl (76, 277)))), some (.inl a), some (.inl b)]) (st' := [.inl a]) (m' := (f, l)) rfl rfl (fl_bo rfl) rfl ?_
  refine fl_Tq.cI (c := (0 : Int32)) rfl (by decide +kernel) (fl_bo rfl) ?_
  refine fl_Tq.stp (pc' := 3) (lv' := [some (.inr (.inr (.inl (76, 277)))), some (.inl a), some (.inl b)]) (st' := [.inr (.inr (.inl (76, 277))), .inl (0 : Int32), .inl a]) (m' := (f, l)) rfl rfl (fl_bo rfl) rfl ?_
  refine fl_Tq.stp (pc' := 6) (lv' := [some (.inr (.inr (.inl (76, 277)))), some (.inl a), some (.inl b)]) (st' := [.inr (.inr (.inl (79, 280))), .inl (0 : Int32), .inl a]) (m' := (f, l)) rfl rfl (fl_bo rfl) rfl ?_
  refine fl_Tq.cB (c := (19 : Int32)) rfl (by decide +kernel) (fl_bo rfl) ?_
  refine fl_Tq.ldV (p := 280) (τ := 79) (n := 29780) (z := (0, 0, 0)) (k := 19) (v := f 280 19) rfl (fl_bo rfl) rfl (by decide +kernel) (by decide) rfl ?_
  refine fl_Tq.cI (c := (1 : Int32)) rfl (by decide +kernel) (fl_bo rfl) ?_
  refine fl_Tq.stp (pc' := 11) (lv' := [some (.inr (.inr (.inl (76, 277)))), some (.inl a), some (.inl b)]) (st' := [.inl ((f 280 19) - (1 : Int32)), .inl (0 : Int32), .inl a]) (m' := (f, l)) rfl rfl (fl_bo rfl) rfl ?_
  refine fl_Tq.cal rfl rfl (fl_bo rfl) rfl ?_
  refine r_isIn_q  ?_
  show fl_Tq _ 290 14 [some (.inr (.inr (.inl (76, 277)))), some (.inl a), some (.inl b)] [.inl (r_isIn_v a (0 : Int32) ((f 280 19) - (1 : Int32)))] (f, l) _
  by_cases h1 : (r_isIn_v a (0 : Int32) ((f 280 19) - (1 : Int32))).toInt = 0
  · refine fl_Tq.zt rfl (fl_bo rfl) (c1_eq_t h1) rfl ?_
    refine fl_Tq.stp (pc' := 45) (lv' := [some (.inr (.inr (.inl (76, 277)))), some (.inl a), some (.inl b)]) (st' := [.inl (-1000000000 : Int32)]) (m' := (f, l)) rfl rfl (fl_bo rfl) rfl ?_
    exact fl_Tq.ret rfl rfl rfl (k h1)
  · refine fl_Tq.zf rfl (fl_bo rfl) (c1_eq_f h1) rfl ?_
    refine fl_Tq.stp (pc' := 18) (lv' := [some (.inr (.inr (.inl (76, 277)))), some (.inl a), some (.inl b)]) (st' := [.inl b]) (m' := (f, l)) rfl rfl (fl_bo rfl) rfl ?_
    refine fl_Tq.cI (c := (0 : Int32)) rfl (by decide +kernel) (fl_bo rfl) ?_
    refine fl_Tq.cI (c := (1 : Int32)) rfl (by decide +kernel) (fl_bo rfl) ?_
    refine fl_Tq.cal rfl rfl (fl_bo rfl) rfl ?_
    refine r_isIn_q  ?_
    show fl_Tq _ 290 23 [some (.inr (.inr (.inl (76, 277)))), some (.inl a), some (.inl b)] [.inl (r_isIn_v b (0 : Int32) (1 : Int32))] (f, l) _
    by_cases h2 : (r_isIn_v b (0 : Int32) (1 : Int32)).toInt = 0
    · refine fl_Tq.zt rfl (fl_bo rfl) (c1_eq_t h2) rfl ?_
      refine fl_Tq.stp (pc' := 45) (lv' := [some (.inr (.inr (.inl (76, 277)))), some (.inl a), some (.inl b)]) (st' := [.inl (-1000000000 : Int32)]) (m' := (f, l)) rfl rfl (fl_bo rfl) rfl ?_
      exact fl_Tq.ret rfl rfl rfl (k1 h1 h2)
    · refine fl_Tq.zf rfl (fl_bo rfl) (c1_eq_f h2) rfl ?_
      exact k2 h1 h2
theorem y_driveOf_B {L : Nat} {xs : Nat → Int32} {f : t2_F} {l : t2_L} {Q : Option fl_V → fl_M → Prop} {a b : Int32} {A B : Nat} (hA : a.toInt = (A : Int)) (hA1 : A < 24) (hB : b.toInt = (B : Int)) (hB1 : B < 2) (k : Q (some (.inl (f 280 (119 + 2 * A + B)))) (f, l)) : fl_Tq (pw_P L xs) 290 26 [some (.inr (.inr (.inl (76, 277)))), some (.inl a), some (.inl b)] [] (f, l) Q := by
  refine fl_Tq.stp (pc' := 27) (lv' := [some (.inr (.inr (.inl (76, 277)))), some (.inl a), some (.inl b)]) (st' := [.inr (.inr (.inl (76, 277)))]) (m' := (f, l)) rfl rfl (fl_bo rfl) rfl ?_
  refine fl_Tq.stp (pc' := 30) (lv' := [some (.inr (.inr (.inl (76, 277)))), some (.inl a), some (.inl b)]) (st' := [.inr (.inr (.inl (79, 280)))]) (m' := (f, l)) rfl rfl (fl_bo rfl) rfl ?_
  refine fl_Tq.cB (c := (119 : Int32)) rfl (by decide +kernel) (fl_bo rfl) ?_
  refine fl_Tq.cI (c := (2 : Int32)) rfl (by decide +kernel) (fl_bo rfl) ?_
  refine fl_Tq.stp (pc' := 34) (lv' := [some (.inr (.inr (.inl (76, 277)))), some (.inl a), some (.inl b)]) (st' := [.inl a, .inl (2 : Int32), .inl (119 : Int32), .inr (.inr (.inl (79, 280)))]) (m' := (f, l)) rfl rfl (fl_bo rfl) rfl ?_
  refine fl_Tq.stp (pc' := 35) (lv' := [some (.inr (.inr (.inl (76, 277)))), some (.inl a), some (.inl b)]) (st' := [.inl ((2 : Int32) * a), .inl (119 : Int32), .inr (.inr (.inl (79, 280)))]) (m' := (f, l)) rfl rfl (fl_bo rfl) rfl ?_
  refine fl_Tq.stp (pc' := 36) (lv' := [some (.inr (.inr (.inl (76, 277)))), some (.inl a), some (.inl b)]) (st' := [.inl ((119 : Int32) + ((2 : Int32) * a)), .inr (.inr (.inl (79, 280)))]) (m' := (f, l)) rfl rfl (fl_bo rfl) rfl ?_
  refine fl_Tq.stp (pc' := 37) (lv' := [some (.inr (.inr (.inl (76, 277)))), some (.inl a), some (.inl b)]) (st' := [.inl b, .inl ((119 : Int32) + ((2 : Int32) * a)), .inr (.inr (.inl (79, 280)))]) (m' := (f, l)) rfl rfl (fl_bo rfl) rfl ?_
  refine fl_Tq.stp (pc' := 38) (lv' := [some (.inr (.inr (.inl (76, 277)))), some (.inl a), some (.inl b)]) (st' := [.inl (((119 : Int32) + ((2 : Int32) * a)) + b), .inr (.inr (.inl (79, 280)))]) (m' := (f, l)) rfl rfl (fl_bo rfl) rfl ?_
  refine fl_Tq.ldV (p := 280) (τ := 79) (n := 29780) (z := (0, 0, 0)) (k := 119 + 2 * A + B) (v := f 280 (119 + 2 * A + B)) rfl (fl_bo rfl) rfl (t2_mr (M := 2) (K := 119) (by decide +kernel) (by decide +kernel) (by decide) (by decide) hA hB (by omega) (by omega)) (by omega) rfl ?_
  refine fl_Tq.stp (pc' := 45) (lv' := [some (.inr (.inr (.inl (76, 277)))), some (.inl a), some (.inl b)]) (st' := [.inl (f 280 (119 + 2 * A + B))]) (m' := (f, l)) rfl rfl (fl_bo rfl) rfl ?_
  exact fl_Tq.ret rfl rfl rfl k
/-! ===== driveOf, on both sides ===== -/
theorem t2_cmp_53 {L : Nat} {xs : Nat → Int32} {f : t2_F} {l : t2_L} {a b : Int32} (_hall : ∀ c ∈ at_CM ++ at_CA, at_Valid at_XI (pw_P L xs) c) (hg : t2_Z (f, l)) : fl_Tq (pw_P L xs) 154 0 (fl_args (am_mxl (pw_P L xs) 154) [lx_x, .inl a, .inl b]) [] (f, l) (t2_End L xs 290 [at_this, .inl a, .inl b]) := by
  have I : c0_I f f := hg.2.1
  have c0 : (0 : Int32).toInt = 0 := rfl
  have c1 : (1 : Int32).toInt = 1 := by decide +kernel
  have z : f 3 7 = f 280 19 := I.2.2.1.1.2.2.2.2.1
  have hn : 0 ≤ (f 280 19).toInt ∧ (f 280 19).toInt ≤ 24 := I.2.2.2.2.2.2.2.2.2.1.1
  have ed : (f 280 19 - (1 : Int32)).toInt = (f 280 19).toInt - 1 := t2_dec (by omega)
  by_cases h : (0 ≤ a.toInt ∧ a.toInt ≤ (f 280 19).toInt - 1) ∧ 0 ≤ b.toInt ∧ b.toInt ≤ 1
  · obtain ⟨A, hA⟩ := t2_nat h.1.1
    obtain ⟨B, hB⟩ := t2_nat h.2.1
    have hA1 : A < 24 := by omega
    have hB1 : B < 2 := by omega
    have e : f 8 (A * 2 + B) = f 280 (119 + 2 * A + B) := by
      rw [I.2.2.1.1.2.2.2.2.2 (A * 2 + B) (by omega)]
      exact congrArg _ (by omega)
    refine t2_qq (y := f 280 (119 + 2 * A + B)) hg (fun Q k => ?_) (fun Q k => ?_)
    · show fl_Tq (pw_P L xs) 154 0 [some (.inr (.inr (.inl (0, 0)))), some (.inl a), some (.inl b)] [] (f, l) Q
      refine x_driveOf_A (fun h1 => ?_) (fun _ h1 => ?_) (fun _ _ => x_driveOf_B hA hA1 hB hB1 ?_)
      · rw [t2_w0, z, c0, ed] at h1
        exact absurd h.1 h1
      · rw [t2_w0, c0, c1] at h1
        exact absurd h.2 h1
      · rw [e]
        exact k
    · show fl_Tq (pw_P L xs) 290 0 [some (.inr (.inr (.inl (76, 277)))), some (.inl a), some (.inl b)] [] (f, l) Q
      refine y_driveOf_A (fun h1 => ?_) (fun _ h1 => ?_) (fun _ _ => y_driveOf_B hA hA1 hB hB1 k)
      · rw [r_i0, c0, ed] at h1
        exact absurd h.1 h1
      · rw [r_i0, c0, c1] at h1
        exact absurd h.2 h1
  · refine t2_qq (y := (-1000000000 : Int32)) hg (fun Q k => ?_) (fun Q k => ?_)
    · show fl_Tq (pw_P L xs) 154 0 [some (.inr (.inr (.inl (0, 0)))), some (.inl a), some (.inl b)] [] (f, l) Q
      refine x_driveOf_A (fun _ => k) (fun _ _ => k) (fun h1 h2 => ?_)
      rw [t2_w0, z, c0, ed, Classical.not_not] at h1
      rw [t2_w0, c0, c1, Classical.not_not] at h2
      exact absurd ⟨h1, h2⟩ h
    · show fl_Tq (pw_P L xs) 290 0 [some (.inr (.inr (.inl (76, 277)))), some (.inl a), some (.inl b)] [] (f, l) Q
      refine y_driveOf_A (fun _ => k) (fun _ _ => k) (fun h1 h2 => ?_)
      rw [r_i0, c0, ed, Classical.not_not] at h1
      rw [r_i0, c0, c1, Classical.not_not] at h2
      exact absurd ⟨h1, h2⟩ h

end

/-! 95.05.30p54.lean.txt -/
section
noncomputable def x_room_a27 (f : t2_F) (a : Int32) : Nat → Int32
  | 0 => (2147483647 : Int32)
  | k27 + 1 => t2_min_v (x_room_a27 f a k27) (if a.toInt = 0 then ((f (18 + 4 * k27) 0) * (3600 : Int32)) - (f (18 + 4 * k27) 2) else f (18 + 4 * k27) 2)
noncomputable def x_room_v (f : t2_F) (a : Int32) : Int32 := if (t2_within_v a (0 : Int32) (1 : Int32)).toInt = 0 then (-1 : Int32) else (if (f 1 5).toInt = 0 then (-1 : Int32) else x_room_a27 f a ((f 1 5).toInt.toNat))
theorem x_room_q {L : Nat} {xs : Nat → Int32} {f : t2_F} {l : t2_L} {Q : Option fl_V → fl_M → Prop} {a : Int32} (hc : 0 ≤ (f 1 5).toInt ∧ (f 1 5).toInt ≤ 16) (k : Q (some (.inl (x_room_v f a))) (f, l)) : fl_Tq (pw_P L xs) 155 0 (fl_args (am_mxl (pw_P L xs) 155) [.inr (.inr (.inl (0, 0))), .inl a]) [] (f, l) Q := by
  refine fl_Tq.stp (pc' := 1) (lv' := [some (.inr (.inr (.inl (0, 0)))), some (.inl a), none, none, none]) (st' := [.inl a]) (m' := (f, l)) rfl rfl (fl_bo rfl) rfl ?_
  refine fl_Tq.cI (c := (0 : Int32)) rfl (by decide +kernel) (fl_bo rfl) ?_
  refine fl_Tq.cI (c := (1 : Int32)) rfl (by decide +kernel) (fl_bo rfl) ?_
  refine fl_Tq.cal rfl rfl (fl_bo rfl) rfl ?_
  refine t2_within_q  ?_
  show fl_Tq _ 155 6 [some (.inr (.inr (.inl (0, 0)))), some (.inl a), none, none, none] [.inl (t2_within_v a (0 : Int32) (1 : Int32))] (f, l) _
  by_cases h1 : (t2_within_v a (0 : Int32) (1 : Int32)).toInt = 0
  · refine fl_Tq.zt rfl (fl_bo rfl) (c1_eq_t h1) rfl ?_
    refine fl_Tq.cI (c := (-1 : Int32)) rfl (by decide +kernel) (fl_bo rfl) ?_
    refine fl_Tq.ret rfl rfl rfl ?_
    unfold x_room_v at k
    simp only [if_pos h1] at k
    exact k
  · refine fl_Tq.zf rfl (fl_bo rfl) (c1_eq_f h1) rfl ?_
    refine fl_Tq.stp (pc' := 10) (lv' := [some (.inr (.inr (.inl (0, 0)))), some (.inl a), none, none, none]) (st' := [.inr (.inr (.inl (0, 0)))]) (m' := (f, l)) rfl rfl (fl_bo rfl) rfl ?_
    refine fl_Tq.stp (pc' := 13) (lv' := [some (.inr (.inr (.inl (0, 0)))), some (.inl a), none, none, none]) (st' := [.inr (.inr (.inl (1, 1)))]) (m' := (f, l)) rfl rfl (fl_bo rfl) rfl ?_
    refine fl_Tq.gfV (k := 5) (v := f 1 5) rfl (fl_bo rfl) rfl rfl ?_
    by_cases h2 : (f 1 5).toInt = 0
    · refine fl_Tq.zf rfl (fl_bo rfl) (c1_ne_f h2) rfl ?_
      refine fl_Tq.cI (c := (-1 : Int32)) rfl (by decide +kernel) (fl_bo rfl) ?_
      refine fl_Tq.ret rfl rfl rfl ?_
      unfold x_room_v at k
      simp only [if_neg h1, if_pos h2] at k
      exact k
    · refine fl_Tq.zt rfl (fl_bo rfl) (c1_ne_t h2) rfl ?_
      refine fl_Tq.stp (pc' := 24) (lv' := [some (.inr (.inr (.inl (0, 0)))), some (.inl a), none, none, none]) (st' := [.inl (2147483647 : Int32)]) (m' := (f, l)) rfl rfl (fl_bo rfl) rfl ?_
      refine fl_Tq.stp (pc' := 25) (lv' := [some (.inr (.inr (.inl (0, 0)))), some (.inl a), some (.inl (2147483647 : Int32)), none, none]) (st' := []) (m' := (f, l)) rfl rfl (fl_bo rfl) rfl ?_
      refine fl_Tq.cI (c := (0 : Int32)) rfl (by decide +kernel) (fl_bo rfl) ?_
      refine fl_Tq.stp (pc' := 27) (lv' := [some (.inr (.inr (.inl (0, 0)))), some (.inl a), some (.inl (2147483647 : Int32)), some (.inl (0 : Int32)), none]) (st' := []) (m' := (f, l)) rfl rfl (fl_bo rfl) rfl ?_
      have hs27 : ∀ k27 : Nat, k27 < (f 1 5).toInt.toNat → fl_Tq (pw_P L xs) 155 27 [some (.inr (.inr (.inl (0, 0)))), some (.inl a), some (.inl (x_room_a27 f a (k27 + 1))), some (.inl (Int32.ofNat (k27 + 1))), none] [] (f, l) Q → fl_Tq (pw_P L xs) 155 27 [some (.inr (.inr (.inl (0, 0)))), some (.inl a), some (.inl (x_room_a27 f a k27)), some (.inl (Int32.ofNat k27)), none] [] (f, l) Q := by
        intro k27 hk27 hS
        refine fl_Tq.stp (pc' := 28) (lv' := [some (.inr (.inr (.inl (0, 0)))), some (.inl a), some (.inl (x_room_a27 f a k27)), some (.inl (Int32.ofNat k27)), none]) (st' := [.inl (Int32.ofNat k27)]) (m' := (f, l)) rfl rfl (fl_bo rfl) rfl ?_
        refine fl_Tq.stp (pc' := 29) (lv' := [some (.inr (.inr (.inl (0, 0)))), some (.inl a), some (.inl (x_room_a27 f a k27)), some (.inl (Int32.ofNat k27)), none]) (st' := [.inr (.inr (.inl (0, 0))), .inl (Int32.ofNat k27)]) (m' := (f, l)) rfl rfl (fl_bo rfl) rfl ?_
        refine fl_Tq.stp (pc' := 32) (lv' := [some (.inr (.inr (.inl (0, 0)))), some (.inl a), some (.inl (x_room_a27 f a k27)), some (.inl (Int32.ofNat k27)), none]) (st' := [.inr (.inr (.inl (1, 1))), .inl (Int32.ofNat k27)]) (m' := (f, l)) rfl rfl (fl_bo rfl) rfl ?_
        refine fl_Tq.gfV (k := 5) (v := f 1 5) rfl (fl_bo rfl) rfl rfl ?_
        refine fl_Tq.jf rfl (fl_bo rfl) (c2_ge_f (t2_lk hk27 (t2_nn hc.1))) rfl ?_
        refine fl_Tq.stp (pc' := 39) (lv' := [some (.inr (.inr (.inl (0, 0)))), some (.inl a), some (.inl (x_room_a27 f a k27)), some (.inl (Int32.ofNat k27)), none]) (st' := [.inr (.inr (.inl (0, 0)))]) (m' := (f, l)) rfl rfl (fl_bo rfl) rfl ?_
        refine fl_Tq.stp (pc' := 42) (lv' := [some (.inr (.inr (.inl (0, 0)))), some (.inl a), some (.inl (x_room_a27 f a k27)), some (.inl (Int32.ofNat k27)), none]) (st' := [.inr (.inr (.inl (1, 1)))]) (m' := (f, l)) rfl rfl (fl_bo rfl) rfl ?_
        refine fl_Tq.stp (pc' := 45) (lv' := [some (.inr (.inr (.inl (0, 0)))), some (.inl a), some (.inl (x_room_a27 f a k27)), some (.inl (Int32.ofNat k27)), none]) (st' := [.inr (.inr (.inl (2, 2)))]) (m' := (f, l)) rfl rfl (fl_bo rfl) rfl ?_
        refine fl_Tq.stp (pc' := 46) (lv' := [some (.inr (.inr (.inl (0, 0)))), some (.inl a), some (.inl (x_room_a27 f a k27)), some (.inl (Int32.ofNat k27)), none]) (st' := [.inl (Int32.ofNat k27), .inr (.inr (.inl (2, 2)))]) (m' := (f, l)) rfl rfl (fl_bo rfl) rfl ?_
        refine fl_Tq.qld (p := 2) (τ := 2) (n := 16) (t := 18) (b := 16) (d := 3) (k := k27) rfl (fl_bo rfl) rfl (at_ofN (by omega)) (by omega) ?_
        show fl_Tq _ 155 47 [some (.inr (.inr (.inl (0, 0)))), some (.inl a), some (.inl (x_room_a27 f a k27)), some (.inl (Int32.ofNat k27)), none] [.inr (.inr (.inl (18, 18 + 4 * k27)))] (f, l) _
        refine fl_Tq.stp (pc' := 49) (lv' := [some (.inr (.inr (.inl (0, 0)))), some (.inl a), some (.inl (x_room_a27 f a k27)), some (.inl (Int32.ofNat k27)), some (.inr (.inr (.inl (18, 18 + 4 * k27))))]) (st' := []) (m' := (f, l)) rfl rfl (fl_oks_ok ⟨(t2_kc0 (by omega)), True.intro⟩) rfl ?_
        refine fl_Tq.stp (pc' := 50) (lv' := [some (.inr (.inr (.inl (0, 0)))), some (.inl a), some (.inl (x_room_a27 f a k27)), some (.inl (Int32.ofNat k27)), some (.inr (.inr (.inl (18, 18 + 4 * k27))))]) (st' := [.inl (x_room_a27 f a k27)]) (m' := (f, l)) rfl rfl (fl_bo rfl) rfl ?_
        refine fl_Tq.stp (pc' := 51) (lv' := [some (.inr (.inr (.inl (0, 0)))), some (.inl a), some (.inl (x_room_a27 f a k27)), some (.inl (Int32.ofNat k27)), some (.inr (.inr (.inl (18, 18 + 4 * k27))))]) (st' := [.inl a, .inl (x_room_a27 f a k27)]) (m' := (f, l)) rfl rfl (fl_bo rfl) rfl ?_
        have hj190 : fl_Tq (pw_P L xs) 155 73 [some (.inr (.inr (.inl (0, 0)))), some (.inl a), some (.inl (x_room_a27 f a k27)), some (.inl (Int32.ofNat k27)), some (.inr (.inr (.inl (18, 18 + 4 * k27))))] [.inl (if a.toInt = 0 then ((f (18 + 4 * k27) 0) * (3600 : Int32)) - (f (18 + 4 * k27) 2) else f (18 + 4 * k27) 2), .inl (x_room_a27 f a k27)] (f, l) Q → fl_Tq (pw_P L xs) 155 51 [some (.inr (.inr (.inl (0, 0)))), some (.inl a), some (.inl (x_room_a27 f a k27)), some (.inl (Int32.ofNat k27)), some (.inr (.inr (.inl (18, 18 + 4 * k27))))] [.inl a, .inl (x_room_a27 f a k27)] (f, l) Q := by
          intro hJ
          by_cases h3 : a.toInt = 0
          · refine fl_Tq.zf rfl (fl_bo rfl) (c1_ne_f h3) rfl ?_
            refine fl_Tq.stp (pc' := 56) (lv' := [some (.inr (.inr (.inl (0, 0)))), some (.inl a), some (.inl (x_room_a27 f a k27)), some (.inl (Int32.ofNat k27)), some (.inr (.inr (.inl (18, 18 + 4 * k27))))]) (st' := [.inr (.inr (.inl (18, 18 + 4 * k27))), .inl (x_room_a27 f a k27)]) (m' := (f, l)) rfl rfl (fl_bo rfl) rfl ?_
            refine fl_Tq.cal rfl rfl (fl_oks_ok ⟨(t2_kc0 (by omega)), True.intro, True.intro⟩) rfl ?_
            refine fl_Tq.stp (pc' := 1) (lv' := [some (.inr (.inr (.inl (18, 18 + 4 * k27))))]) (st' := [.inr (.inr (.inl (18, 18 + 4 * k27)))]) (m' := (f, l)) rfl rfl (fl_bo rfl) rfl ?_
            refine fl_Tq.gfV (k := 0) (v := f (18 + 4 * k27) 0) rfl (fl_oks_ok ⟨(t2_kc0 (by omega)), True.intro⟩) rfl rfl ?_
            refine fl_Tq.cS (c := (3600 : Int32)) rfl (by decide +kernel) (fl_bo rfl) ?_
            refine fl_Tq.stp (pc' := 8) (lv' := [some (.inr (.inr (.inl (18, 18 + 4 * k27))))]) (st' := [.inl ((f (18 + 4 * k27) 0) * (3600 : Int32))]) (m' := (f, l)) rfl rfl (fl_bo rfl) rfl ?_
            refine fl_Tq.ret rfl rfl rfl ?_
            show fl_Tq _ 155 59 [some (.inr (.inr (.inl (0, 0)))), some (.inl a), some (.inl (x_room_a27 f a k27)), some (.inl (Int32.ofNat k27)), some (.inr (.inr (.inl (18, 18 + 4 * k27))))] [.inl ((f (18 + 4 * k27) 0) * (3600 : Int32)), .inl (x_room_a27 f a k27)] (f, l) _
            refine fl_Tq.stp (pc' := 61) (lv' := [some (.inr (.inr (.inl (0, 0)))), some (.inl a), some (.inl (x_room_a27 f a k27)), some (.inl (Int32.ofNat k27)), some (.inr (.inr (.inl (18, 18 + 4 * k27))))]) (st' := [.inr (.inr (.inl (18, 18 + 4 * k27))), .inl ((f (18 + 4 * k27) 0) * (3600 : Int32)), .inl (x_room_a27 f a k27)]) (m' := (f, l)) rfl rfl (fl_bo rfl) rfl ?_
            refine fl_Tq.gfV (k := 2) (v := f (18 + 4 * k27) 2) rfl (fl_oks_ok ⟨(t2_kc0 (by omega)), True.intro, True.intro, True.intro⟩) rfl rfl ?_
            refine fl_Tq.stp (pc' := 65) (lv' := [some (.inr (.inr (.inl (0, 0)))), some (.inl a), some (.inl (x_room_a27 f a k27)), some (.inl (Int32.ofNat k27)), some (.inr (.inr (.inl (18, 18 + 4 * k27))))]) (st' := [.inl (((f (18 + 4 * k27) 0) * (3600 : Int32)) - (f (18 + 4 * k27) 2)), .inl (x_room_a27 f a k27)]) (m' := (f, l)) rfl rfl (fl_bo rfl) rfl ?_
            refine fl_Tq.stp (pc' := 73) (lv' := [some (.inr (.inr (.inl (0, 0)))), some (.inl a), some (.inl (x_room_a27 f a k27)), some (.inl (Int32.ofNat k27)), some (.inr (.inr (.inl (18, 18 + 4 * k27))))]) (st' := [.inl (((f (18 + 4 * k27) 0) * (3600 : Int32)) - (f (18 + 4 * k27) 2)), .inl (x_room_a27 f a k27)]) (m' := (f, l)) rfl rfl (fl_bo rfl) rfl ?_
            have e0 : (if a.toInt = 0 then ((f (18 + 4 * k27) 0) * (3600 : Int32)) - (f (18 + 4 * k27) 2) else f (18 + 4 * k27) 2) = ((f (18 + 4 * k27) 0) * (3600 : Int32)) - (f (18 + 4 * k27) 2) := by simp only [if_pos h3]
            rw [e0] at hJ
            exact hJ
          · refine fl_Tq.zt rfl (fl_bo rfl) (c1_ne_t h3) rfl ?_
            refine fl_Tq.stp (pc' := 70) (lv' := [some (.inr (.inr (.inl (0, 0)))), some (.inl a), some (.inl (x_room_a27 f a k27)), some (.inl (Int32.ofNat k27)), some (.inr (.inr (.inl (18, 18 + 4 * k27))))]) (st' := [.inr (.inr (.inl (18, 18 + 4 * k27))), .inl (x_room_a27 f a k27)]) (m' := (f, l)) rfl rfl (fl_bo rfl) rfl ?_
            refine fl_Tq.gfV (k := 2) (v := f (18 + 4 * k27) 2) rfl (fl_oks_ok ⟨(t2_kc0 (by omega)), True.intro, True.intro⟩) rfl rfl ?_
            have e0 : (if a.toInt = 0 then ((f (18 + 4 * k27) 0) * (3600 : Int32)) - (f (18 + 4 * k27) 2) else f (18 + 4 * k27) 2) = f (18 + 4 * k27) 2 := by simp only [if_neg h3]
            rw [e0] at hJ
            exact hJ
        refine hj190 ?_
        show fl_Tq _ 155 73 [some (.inr (.inr (.inl (0, 0)))), some (.inl a), some (.inl (x_room_a27 f a k27)), some (.inl (Int32.ofNat k27)), some (.inr (.inr (.inl (18, 18 + 4 * k27))))] [.inl (if a.toInt = 0 then ((f (18 + 4 * k27) 0) * (3600 : Int32)) - (f (18 + 4 * k27) 2) else f (18 + 4 * k27) 2), .inl (x_room_a27 f a k27)] (f, l) _
        refine fl_Tq.cal rfl rfl (fl_bo rfl) rfl ?_
        refine t2_min_q  ?_
        show fl_Tq _ 155 76 [some (.inr (.inr (.inl (0, 0)))), some (.inl a), some (.inl (x_room_a27 f a k27)), some (.inl (Int32.ofNat k27)), some (.inr (.inr (.inl (18, 18 + 4 * k27))))] [.inl (t2_min_v (x_room_a27 f a k27) (if a.toInt = 0 then ((f (18 + 4 * k27) 0) * (3600 : Int32)) - (f (18 + 4 * k27) 2) else f (18 + 4 * k27) 2))] (f, l) _
        refine fl_Tq.stp (pc' := 77) (lv' := [some (.inr (.inr (.inl (0, 0)))), some (.inl a), some (.inl (t2_min_v (x_room_a27 f a k27) (if a.toInt = 0 then ((f (18 + 4 * k27) 0) * (3600 : Int32)) - (f (18 + 4 * k27) 2) else f (18 + 4 * k27) 2))), some (.inl (Int32.ofNat k27)), some (.inr (.inr (.inl (18, 18 + 4 * k27))))]) (st' := []) (m' := (f, l)) rfl rfl (fl_bo rfl) rfl ?_
        refine fl_Tq.stp (pc' := 80) (lv' := [some (.inr (.inr (.inl (0, 0)))), some (.inl a), some (.inl (t2_min_v (x_room_a27 f a k27) (if a.toInt = 0 then ((f (18 + 4 * k27) 0) * (3600 : Int32)) - (f (18 + 4 * k27) 2) else f (18 + 4 * k27) 2))), some (.inl ((Int32.ofNat k27) + (1 : Int32))), some (.inr (.inr (.inl (18, 18 + 4 * k27))))]) (st' := []) (m' := (f, l)) rfl rfl (fl_bo rfl) rfl ?_
        refine fl_Tq.stp (pc' := 27) (lv' := [some (.inr (.inr (.inl (0, 0)))), some (.inl a), some (.inl (t2_min_v (x_room_a27 f a k27) (if a.toInt = 0 then ((f (18 + 4 * k27) 0) * (3600 : Int32)) - (f (18 + 4 * k27) 2) else f (18 + 4 * k27) 2))), some (.inl ((Int32.ofNat k27) + (1 : Int32))), some (.inr (.inr (.inl (18, 18 + 4 * k27))))]) (st' := []) (m' := (f, l)) rfl rfl (fl_bo rfl) rfl ?_
        have ea : x_room_a27 f a (k27 + 1) = t2_min_v (x_room_a27 f a k27) (if a.toInt = 0 then ((f (18 + 4 * k27) 0) * (3600 : Int32)) - (f (18 + 4 * k27) 2) else f (18 + 4 * k27) 2) := by
          show (t2_min_v (x_room_a27 f a k27) (if a.toInt = 0 then ((f (18 + 4 * k27) 0) * (3600 : Int32)) - (f (18 + 4 * k27) 2) else f (18 + 4 * k27) 2)) = _
          rfl
        rw [ea, ← t2_k1] at hS
        exact fl_Tq.fg hS ⟨rfl, rfl, rfl, rfl, True.intro⟩
      refine t2_for (S := fun k27 => fl_Tq (pw_P L xs) 155 27 [some (.inr (.inr (.inl (0, 0)))), some (.inl a), some (.inl (x_room_a27 f a k27)), some (.inl (Int32.ofNat k27)), none] [] (f, l) Q) hs27 ?_
      show fl_Tq (pw_P L xs) 155 27 [some (.inr (.inr (.inl (0, 0)))), some (.inl a), some (.inl (x_room_a27 f a ((f 1 5).toInt.toNat))), some (.inl (Int32.ofNat ((f 1 5).toInt.toNat))), none] [] (f, l) _
      refine fl_Tq.stp (pc' := 28) (lv' := [some (.inr (.inr (.inl (0, 0)))), some (.inl a), some (.inl (x_room_a27 f a ((f 1 5).toInt.toNat))), some (.inl (Int32.ofNat ((f 1 5).toInt.toNat))), none]) (st' := [.inl (Int32.ofNat ((f 1 5).toInt.toNat))]) (m' := (f, l)) rfl rfl (fl_bo rfl) rfl ?_
      refine fl_Tq.stp (pc' := 29) (lv' := [some (.inr (.inr (.inl (0, 0)))), some (.inl a), some (.inl (x_room_a27 f a ((f 1 5).toInt.toNat))), some (.inl (Int32.ofNat ((f 1 5).toInt.toNat))), none]) (st' := [.inr (.inr (.inl (0, 0))), .inl (Int32.ofNat ((f 1 5).toInt.toNat))]) (m' := (f, l)) rfl rfl (fl_bo rfl) rfl ?_
      refine fl_Tq.stp (pc' := 32) (lv' := [some (.inr (.inr (.inl (0, 0)))), some (.inl a), some (.inl (x_room_a27 f a ((f 1 5).toInt.toNat))), some (.inl (Int32.ofNat ((f 1 5).toInt.toNat))), none]) (st' := [.inr (.inr (.inl (1, 1))), .inl (Int32.ofNat ((f 1 5).toInt.toNat))]) (m' := (f, l)) rfl rfl (fl_bo rfl) rfl ?_
      refine fl_Tq.gfV (k := 5) (v := f 1 5) rfl (fl_bo rfl) rfl rfl ?_
      refine fl_Tq.jt rfl (fl_bo rfl) (c2_ge_t (t2_ln (t2_nn hc.1))) rfl ?_
      refine fl_Tq.stp (pc' := 84) (lv' := [some (.inr (.inr (.inl (0, 0)))), some (.inl a), some (.inl (x_room_a27 f a ((f 1 5).toInt.toNat))), some (.inl (Int32.ofNat ((f 1 5).toInt.toNat))), none]) (st' := [.inl (x_room_a27 f a ((f 1 5).toInt.toNat))]) (m' := (f, l)) rfl rfl (fl_bo rfl) rfl ?_
      refine fl_Tq.ret rfl rfl rfl ?_
      unfold x_room_v at k
      simp only [if_neg h1, if_neg h2] at k
      exact k
noncomputable def y_room_a25 (f : t2_F) (a : Int32) : Nat → Int32
  | 0 => (2000000000 : Int32)
  | k25 + 1 => r_lesser_v (y_room_a25 f a k25) (if a.toInt = 0 then ((3600 : Int32) * (f 280 (444 + 61 * k25 + 0))) - (f 280 (444 + 61 * k25 + 1)) else f 280 (444 + 61 * k25 + 1))
noncomputable def y_room_v (f : t2_F) (a : Int32) : Int32 := if (r_isIn_v a (0 : Int32) (1 : Int32)).toInt = 0 then (-1 : Int32) else (if (f 280 2).toInt = 0 then (-1 : Int32) else y_room_a25 f a ((f 280 2).toInt.toNat))
theorem y_room_q {L : Nat} {xs : Nat → Int32} {f : t2_F} {l : t2_L} {Q : Option fl_V → fl_M → Prop} {a : Int32} (hn : 0 ≤ (f 280 2).toInt ∧ (f 280 2).toInt ≤ 16) (hk : ∀ C : Nat, (C : Int) < (f 280 2).toInt → t2_ck f C) (k : Q (some (.inl (y_room_v f a))) (f, l)) : fl_Tq (pw_P L xs) 291 0 (fl_args (am_mxl (pw_P L xs) 291) [.inr (.inr (.inl (76, 277))), .inl a]) [] (f, l) Q := by
  refine fl_Tq.stp (pc' := 1) (lv' := [some (.inr (.inr (.inl (76, 277)))), some (.inl a), none, none]) (st' := [.inl a]) (m' := (f, l)) rfl rfl (fl_bo rfl) rfl ?_
  refine fl_Tq.cI (c := (0 : Int32)) rfl (by decide +kernel) (fl_bo rfl) ?_
  refine fl_Tq.cI (c := (1 : Int32)) rfl (by decide +kernel) (fl_bo rfl) ?_
  refine fl_Tq.cal rfl rfl (fl_bo rfl) rfl ?_
  refine r_isIn_q  ?_
  show fl_Tq _ 291 6 [some (.inr (.inr (.inl (76, 277)))), some (.inl a), none, none] [.inl (r_isIn_v a (0 : Int32) (1 : Int32))] (f, l) _
  by_cases h1 : (r_isIn_v a (0 : Int32) (1 : Int32)).toInt = 0
  · refine fl_Tq.zt rfl (fl_bo rfl) (c1_eq_t h1) rfl ?_
    refine fl_Tq.cI (c := (-1 : Int32)) rfl (by decide +kernel) (fl_bo rfl) ?_
    refine fl_Tq.ret rfl rfl rfl ?_
    unfold y_room_v at k
    simp only [if_pos h1] at k
    exact k
  · refine fl_Tq.zf rfl (fl_bo rfl) (c1_eq_f h1) rfl ?_
    refine fl_Tq.stp (pc' := 10) (lv' := [some (.inr (.inr (.inl (76, 277)))), some (.inl a), none, none]) (st' := [.inr (.inr (.inl (76, 277)))]) (m' := (f, l)) rfl rfl (fl_bo rfl) rfl ?_
    refine fl_Tq.stp (pc' := 13) (lv' := [some (.inr (.inr (.inl (76, 277)))), some (.inl a), none, none]) (st' := [.inr (.inr (.inl (79, 280)))]) (m' := (f, l)) rfl rfl (fl_bo rfl) rfl ?_
    refine fl_Tq.cI (c := (2 : Int32)) rfl (by decide +kernel) (fl_bo rfl) ?_
    refine fl_Tq.ldV (p := 280) (τ := 79) (n := 29780) (z := (0, 0, 0)) (k := 2) (v := f 280 2) rfl (fl_bo rfl) rfl (by decide +kernel) (by decide) rfl ?_
    by_cases h2 : (f 280 2).toInt = 0
    · refine fl_Tq.zf rfl (fl_bo rfl) (c1_ne_f h2) rfl ?_
      refine fl_Tq.cI (c := (-1 : Int32)) rfl (by decide +kernel) (fl_bo rfl) ?_
      refine fl_Tq.ret rfl rfl rfl ?_
      unfold y_room_v at k
      simp only [if_neg h1, if_pos h2] at k
      exact k
    · refine fl_Tq.zt rfl (fl_bo rfl) (c1_ne_t h2) rfl ?_
      refine fl_Tq.stp (pc' := 22) (lv' := [some (.inr (.inr (.inl (76, 277)))), some (.inl a), none, none]) (st' := [.inl (2000000000 : Int32)]) (m' := (f, l)) rfl rfl (fl_bo rfl) rfl ?_
      refine fl_Tq.stp (pc' := 23) (lv' := [some (.inr (.inr (.inl (76, 277)))), some (.inl a), some (.inl (2000000000 : Int32)), none]) (st' := []) (m' := (f, l)) rfl rfl (fl_bo rfl) rfl ?_
      refine fl_Tq.cI (c := (0 : Int32)) rfl (by decide +kernel) (fl_bo rfl) ?_
      refine fl_Tq.stp (pc' := 25) (lv' := [some (.inr (.inr (.inl (76, 277)))), some (.inl a), some (.inl (2000000000 : Int32)), some (.inl (0 : Int32))]) (st' := []) (m' := (f, l)) rfl rfl (fl_bo rfl) rfl ?_
      have hs25 : ∀ k25 : Nat, k25 < (f 280 2).toInt.toNat → fl_Tq (pw_P L xs) 291 25 [some (.inr (.inr (.inl (76, 277)))), some (.inl a), some (.inl (y_room_a25 f a (k25 + 1))), some (.inl (Int32.ofNat (k25 + 1)))] [] (f, l) Q → fl_Tq (pw_P L xs) 291 25 [some (.inr (.inr (.inl (76, 277)))), some (.inl a), some (.inl (y_room_a25 f a k25)), some (.inl (Int32.ofNat k25))] [] (f, l) Q := by
        intro k25 hk25 hS
        refine fl_Tq.stp (pc' := 26) (lv' := [some (.inr (.inr (.inl (76, 277)))), some (.inl a), some (.inl (y_room_a25 f a k25)), some (.inl (Int32.ofNat k25))]) (st' := [.inl (Int32.ofNat k25)]) (m' := (f, l)) rfl rfl (fl_bo rfl) rfl ?_
        refine fl_Tq.stp (pc' := 27) (lv' := [some (.inr (.inr (.inl (76, 277)))), some (.inl a), some (.inl (y_room_a25 f a k25)), some (.inl (Int32.ofNat k25))]) (st' := [.inr (.inr (.inl (76, 277))), .inl (Int32.ofNat k25)]) (m' := (f, l)) rfl rfl (fl_bo rfl) rfl ?_
        refine fl_Tq.stp (pc' := 30) (lv' := [some (.inr (.inr (.inl (76, 277)))), some (.inl a), some (.inl (y_room_a25 f a k25)), some (.inl (Int32.ofNat k25))]) (st' := [.inr (.inr (.inl (79, 280))), .inl (Int32.ofNat k25)]) (m' := (f, l)) rfl rfl (fl_bo rfl) rfl ?_
        refine fl_Tq.cI (c := (2 : Int32)) rfl (by decide +kernel) (fl_bo rfl) ?_
        refine fl_Tq.ldV (p := 280) (τ := 79) (n := 29780) (z := (0, 0, 0)) (k := 2) (v := f 280 2) rfl (fl_bo rfl) rfl (by decide +kernel) (by decide) rfl ?_
        refine fl_Tq.jf rfl (fl_bo rfl) (c2_ge_f (t2_lk hk25 (t2_nn hn.1))) rfl ?_
        refine fl_Tq.stp (pc' := 36) (lv' := [some (.inr (.inr (.inl (76, 277)))), some (.inl a), some (.inl (y_room_a25 f a k25)), some (.inl (Int32.ofNat k25))]) (st' := [.inl (y_room_a25 f a k25)]) (m' := (f, l)) rfl rfl (fl_bo rfl) rfl ?_
        refine fl_Tq.stp (pc' := 37) (lv' := [some (.inr (.inr (.inl (76, 277)))), some (.inl a), some (.inl (y_room_a25 f a k25)), some (.inl (Int32.ofNat k25))]) (st' := [.inl a, .inl (y_room_a25 f a k25)]) (m' := (f, l)) rfl rfl (fl_bo rfl) rfl ?_
        have hj191 : fl_Tq (pw_P L xs) 291 61 [some (.inr (.inr (.inl (76, 277)))), some (.inl a), some (.inl (y_room_a25 f a k25)), some (.inl (Int32.ofNat k25))] [.inl (if a.toInt = 0 then ((3600 : Int32) * (f 280 (444 + 61 * k25 + 0))) - (f 280 (444 + 61 * k25 + 1)) else f 280 (444 + 61 * k25 + 1)), .inl (y_room_a25 f a k25)] (f, l) Q → fl_Tq (pw_P L xs) 291 37 [some (.inr (.inr (.inl (76, 277)))), some (.inl a), some (.inl (y_room_a25 f a k25)), some (.inl (Int32.ofNat k25))] [.inl a, .inl (y_room_a25 f a k25)] (f, l) Q := by
          intro hJ
          by_cases h3 : a.toInt = 0
          · refine fl_Tq.zf rfl (fl_bo rfl) (c1_ne_f h3) rfl ?_
            refine fl_Tq.stp (pc' := 41) (lv' := [some (.inr (.inr (.inl (76, 277)))), some (.inl a), some (.inl (y_room_a25 f a k25)), some (.inl (Int32.ofNat k25))]) (st' := [.inr (.inr (.inl (76, 277))), .inl (y_room_a25 f a k25)]) (m' := (f, l)) rfl rfl (fl_bo rfl) rfl ?_
            refine fl_Tq.stp (pc' := 42) (lv' := [some (.inr (.inr (.inl (76, 277)))), some (.inl a), some (.inl (y_room_a25 f a k25)), some (.inl (Int32.ofNat k25))]) (st' := [.inl (Int32.ofNat k25), .inr (.inr (.inl (76, 277))), .inl (y_room_a25 f a k25)]) (m' := (f, l)) rfl rfl (fl_bo rfl) rfl ?_
            refine fl_Tq.cal rfl rfl (fl_bo rfl) rfl ?_
            refine fl_Tq.cS (c := (3600 : Int32)) rfl (by decide +kernel) (fl_bo rfl) ?_
            refine fl_Tq.stp (pc' := 4) (lv' := [some (.inr (.inr (.inl (76, 277)))), some (.inl (Int32.ofNat k25))]) (st' := [.inr (.inr (.inl (76, 277))), .inl (3600 : Int32)]) (m' := (f, l)) rfl rfl (fl_bo rfl) rfl ?_
            refine fl_Tq.stp (pc' := 5) (lv' := [some (.inr (.inr (.inl (76, 277)))), some (.inl (Int32.ofNat k25))]) (st' := [.inl (Int32.ofNat k25), .inr (.inr (.inl (76, 277))), .inl (3600 : Int32)]) (m' := (f, l)) rfl rfl (fl_bo rfl) rfl ?_
            refine fl_Tq.cI (c := (0 : Int32)) rfl (by decide +kernel) (fl_bo rfl) ?_
            refine fl_Tq.cal rfl rfl (fl_bo rfl) rfl ?_
            refine t2_get (C := k25) (W := 0) (v := f 280 (444 + 61 * k25 + 0)) (at_ofN (by omega)) (by decide +kernel) (by omega) (by decide) rfl ?_
            show fl_Tq _ 195 9 [some (.inr (.inr (.inl (76, 277)))), some (.inl (Int32.ofNat k25))] [.inl (f 280 (444 + 61 * k25 + 0)), .inl (3600 : Int32)] (f, l) _
            refine fl_Tq.stp (pc' := 10) (lv' := [some (.inr (.inr (.inl (76, 277)))), some (.inl (Int32.ofNat k25))]) (st' := [.inl ((3600 : Int32) * (f 280 (444 + 61 * k25 + 0)))]) (m' := (f, l)) rfl rfl (fl_bo rfl) rfl ?_
            refine fl_Tq.ret rfl rfl rfl ?_
            show fl_Tq _ 291 45 [some (.inr (.inr (.inl (76, 277)))), some (.inl a), some (.inl (y_room_a25 f a k25)), some (.inl (Int32.ofNat k25))] [.inl ((3600 : Int32) * (f 280 (444 + 61 * k25 + 0))), .inl (y_room_a25 f a k25)] (f, l) _
            refine fl_Tq.stp (pc' := 46) (lv' := [some (.inr (.inr (.inl (76, 277)))), some (.inl a), some (.inl (y_room_a25 f a k25)), some (.inl (Int32.ofNat k25))]) (st' := [.inr (.inr (.inl (76, 277))), .inl ((3600 : Int32) * (f 280 (444 + 61 * k25 + 0))), .inl (y_room_a25 f a k25)]) (m' := (f, l)) rfl rfl (fl_bo rfl) rfl ?_
            refine fl_Tq.stp (pc' := 47) (lv' := [some (.inr (.inr (.inl (76, 277)))), some (.inl a), some (.inl (y_room_a25 f a k25)), some (.inl (Int32.ofNat k25))]) (st' := [.inl (Int32.ofNat k25), .inr (.inr (.inl (76, 277))), .inl ((3600 : Int32) * (f 280 (444 + 61 * k25 + 0))), .inl (y_room_a25 f a k25)]) (m' := (f, l)) rfl rfl (fl_bo rfl) rfl ?_
            refine fl_Tq.cI (c := (1 : Int32)) rfl (by decide +kernel) (fl_bo rfl) ?_
            refine fl_Tq.cal rfl rfl (fl_bo rfl) rfl ?_
            refine t2_get (C := k25) (W := 1) (v := f 280 (444 + 61 * k25 + 1)) (at_ofN (by omega)) (by decide +kernel) (by omega) (by decide) rfl ?_
            show fl_Tq _ 291 51 [some (.inr (.inr (.inl (76, 277)))), some (.inl a), some (.inl (y_room_a25 f a k25)), some (.inl (Int32.ofNat k25))] [.inl (f 280 (444 + 61 * k25 + 1)), .inl ((3600 : Int32) * (f 280 (444 + 61 * k25 + 0))), .inl (y_room_a25 f a k25)] (f, l) _
            refine fl_Tq.stp (pc' := 52) (lv' := [some (.inr (.inr (.inl (76, 277)))), some (.inl a), some (.inl (y_room_a25 f a k25)), some (.inl (Int32.ofNat k25))]) (st' := [.inl (((3600 : Int32) * (f 280 (444 + 61 * k25 + 0))) - (f 280 (444 + 61 * k25 + 1))), .inl (y_room_a25 f a k25)]) (m' := (f, l)) rfl rfl (fl_bo rfl) rfl ?_
            refine fl_Tq.stp (pc' := 61) (lv' := [some (.inr (.inr (.inl (76, 277)))), some (.inl a), some (.inl (y_room_a25 f a k25)), some (.inl (Int32.ofNat k25))]) (st' := [.inl (((3600 : Int32) * (f 280 (444 + 61 * k25 + 0))) - (f 280 (444 + 61 * k25 + 1))), .inl (y_room_a25 f a k25)]) (m' := (f, l)) rfl rfl (fl_bo rfl) rfl ?_
            have e0 : (if a.toInt = 0 then ((3600 : Int32) * (f 280 (444 + 61 * k25 + 0))) - (f 280 (444 + 61 * k25 + 1)) else f 280 (444 + 61 * k25 + 1)) = ((3600 : Int32) * (f 280 (444 + 61 * k25 + 0))) - (f 280 (444 + 61 * k25 + 1)) := by simp only [if_pos h3]
            rw [e0] at hJ
            exact hJ
          · refine fl_Tq.zt rfl (fl_bo rfl) (c1_ne_t h3) rfl ?_
            refine fl_Tq.stp (pc' := 56) (lv' := [some (.inr (.inr (.inl (76, 277)))), some (.inl a), some (.inl (y_room_a25 f a k25)), some (.inl (Int32.ofNat k25))]) (st' := [.inr (.inr (.inl (76, 277))), .inl (y_room_a25 f a k25)]) (m' := (f, l)) rfl rfl (fl_bo rfl) rfl ?_
            refine fl_Tq.stp (pc' := 57) (lv' := [some (.inr (.inr (.inl (76, 277)))), some (.inl a), some (.inl (y_room_a25 f a k25)), some (.inl (Int32.ofNat k25))]) (st' := [.inl (Int32.ofNat k25), .inr (.inr (.inl (76, 277))), .inl (y_room_a25 f a k25)]) (m' := (f, l)) rfl rfl (fl_bo rfl) rfl ?_
            refine fl_Tq.cI (c := (1 : Int32)) rfl (by decide +kernel) (fl_bo rfl) ?_
            refine fl_Tq.cal rfl rfl (fl_bo rfl) rfl ?_
            refine t2_get (C := k25) (W := 1) (v := f 280 (444 + 61 * k25 + 1)) (at_ofN (by omega)) (by decide +kernel) (by omega) (by decide) rfl ?_
            show fl_Tq _ 291 61 [some (.inr (.inr (.inl (76, 277)))), some (.inl a), some (.inl (y_room_a25 f a k25)), some (.inl (Int32.ofNat k25))] [.inl (f 280 (444 + 61 * k25 + 1)), .inl (y_room_a25 f a k25)] (f, l) _
            have e0 : (if a.toInt = 0 then ((3600 : Int32) * (f 280 (444 + 61 * k25 + 0))) - (f 280 (444 + 61 * k25 + 1)) else f 280 (444 + 61 * k25 + 1)) = f 280 (444 + 61 * k25 + 1) := by simp only [if_neg h3]
            rw [e0] at hJ
            exact hJ
        refine hj191 ?_
        show fl_Tq _ 291 61 [some (.inr (.inr (.inl (76, 277)))), some (.inl a), some (.inl (y_room_a25 f a k25)), some (.inl (Int32.ofNat k25))] [.inl (if a.toInt = 0 then ((3600 : Int32) * (f 280 (444 + 61 * k25 + 0))) - (f 280 (444 + 61 * k25 + 1)) else f 280 (444 + 61 * k25 + 1)), .inl (y_room_a25 f a k25)] (f, l) _
        refine fl_Tq.cal rfl rfl (fl_bo rfl) rfl ?_
        refine r_lesser_q  ?_
        show fl_Tq _ 291 64 [some (.inr (.inr (.inl (76, 277)))), some (.inl a), some (.inl (y_room_a25 f a k25)), some (.inl (Int32.ofNat k25))] [.inl (r_lesser_v (y_room_a25 f a k25) (if a.toInt = 0 then ((3600 : Int32) * (f 280 (444 + 61 * k25 + 0))) - (f 280 (444 + 61 * k25 + 1)) else f 280 (444 + 61 * k25 + 1)))] (f, l) _
        refine fl_Tq.stp (pc' := 65) (lv' := [some (.inr (.inr (.inl (76, 277)))), some (.inl a), some (.inl (r_lesser_v (y_room_a25 f a k25) (if a.toInt = 0 then ((3600 : Int32) * (f 280 (444 + 61 * k25 + 0))) - (f 280 (444 + 61 * k25 + 1)) else f 280 (444 + 61 * k25 + 1)))), some (.inl (Int32.ofNat k25))]) (st' := []) (m' := (f, l)) rfl rfl (fl_bo rfl) rfl ?_
        refine fl_Tq.stp (pc' := 68) (lv' := [some (.inr (.inr (.inl (76, 277)))), some (.inl a), some (.inl (r_lesser_v (y_room_a25 f a k25) (if a.toInt = 0 then ((3600 : Int32) * (f 280 (444 + 61 * k25 + 0))) - (f 280 (444 + 61 * k25 + 1)) else f 280 (444 + 61 * k25 + 1)))), some (.inl ((Int32.ofNat k25) + (1 : Int32)))]) (st' := []) (m' := (f, l)) rfl rfl (fl_bo rfl) rfl ?_
        refine fl_Tq.stp (pc' := 25) (lv' := [some (.inr (.inr (.inl (76, 277)))), some (.inl a), some (.inl (r_lesser_v (y_room_a25 f a k25) (if a.toInt = 0 then ((3600 : Int32) * (f 280 (444 + 61 * k25 + 0))) - (f 280 (444 + 61 * k25 + 1)) else f 280 (444 + 61 * k25 + 1)))), some (.inl ((Int32.ofNat k25) + (1 : Int32)))]) (st' := []) (m' := (f, l)) rfl rfl (fl_bo rfl) rfl ?_
        have ea : y_room_a25 f a (k25 + 1) = r_lesser_v (y_room_a25 f a k25) (if a.toInt = 0 then ((3600 : Int32) * (f 280 (444 + 61 * k25 + 0))) - (f 280 (444 + 61 * k25 + 1)) else f 280 (444 + 61 * k25 + 1)) := by
          show (r_lesser_v (y_room_a25 f a k25) (if a.toInt = 0 then ((3600 : Int32) * (f 280 (444 + 61 * k25 + 0))) - (f 280 (444 + 61 * k25 + 1)) else f 280 (444 + 61 * k25 + 1))) = _
          rfl
        rw [ea, ← t2_k1] at hS
        exact hS
      refine t2_for (S := fun k25 => fl_Tq (pw_P L xs) 291 25 [some (.inr (.inr (.inl (76, 277)))), some (.inl a), some (.inl (y_room_a25 f a k25)), some (.inl (Int32.ofNat k25))] [] (f, l) Q) hs25 ?_
      show fl_Tq (pw_P L xs) 291 25 [some (.inr (.inr (.inl (76, 277)))), some (.inl a), some (.inl (y_room_a25 f a ((f 280 2).toInt.toNat))), some (.inl (Int32.ofNat ((f 280 2).toInt.toNat)))] [] (f, l) _
      refine fl_Tq.stp (pc' := 26) (lv' := [some (.inr (.inr (.inl (76, 277)))), some (.inl a), some (.inl (y_room_a25 f a ((f 280 2).toInt.toNat))), some (.inl (Int32.ofNat ((f 280 2).toInt.toNat)))]) (st' := [.inl (Int32.ofNat ((f 280 2).toInt.toNat))]) (m' := (f, l)) rfl rfl (fl_bo rfl) rfl ?_
      refine fl_Tq.stp (pc' := 27) (lv' := [some (.inr (.inr (.inl (76, 277)))), some (.inl a), some (.inl (y_room_a25 f a ((f 280 2).toInt.toNat))), some (.inl (Int32.ofNat ((f 280 2).toInt.toNat)))]) (st' := [.inr (.inr (.inl (76, 277))), .inl (Int32.ofNat ((f 280 2).toInt.toNat))]) (m' := (f, l)) rfl rfl (fl_bo rfl) rfl ?_
      refine fl_Tq.stp (pc' := 30) (lv' := [some (.inr (.inr (.inl (76, 277)))), some (.inl a), some (.inl (y_room_a25 f a ((f 280 2).toInt.toNat))), some (.inl (Int32.ofNat ((f 280 2).toInt.toNat)))]) (st' := [.inr (.inr (.inl (79, 280))), .inl (Int32.ofNat ((f 280 2).toInt.toNat))]) (m' := (f, l)) rfl rfl (fl_bo rfl) rfl ?_
      refine fl_Tq.cI (c := (2 : Int32)) rfl (by decide +kernel) (fl_bo rfl) ?_
      refine fl_Tq.ldV (p := 280) (τ := 79) (n := 29780) (z := (0, 0, 0)) (k := 2) (v := f 280 2) rfl (fl_bo rfl) rfl (by decide +kernel) (by decide) rfl ?_
      refine fl_Tq.jt rfl (fl_bo rfl) (c2_ge_t (t2_ln (t2_nn hn.1))) rfl ?_
      refine fl_Tq.stp (pc' := 72) (lv' := [some (.inr (.inr (.inl (76, 277)))), some (.inl a), some (.inl (y_room_a25 f a ((f 280 2).toInt.toNat))), some (.inl (Int32.ofNat ((f 280 2).toInt.toNat)))]) (st' := [.inl (y_room_a25 f a ((f 280 2).toInt.toNat))]) (m' := (f, l)) rfl rfl (fl_bo rfl) rfl ?_
      refine fl_Tq.ret rfl rfl rfl ?_
      unfold y_room_v at k
      simp only [if_neg h1, if_neg h2] at k
      exact k
theorem x_room_e {f : t2_F} {a : Int32} (I : c0_I f f) : x_room_v f a = y_room_v f a := by
  have c1 : (2147483647 : Int32).toInt = 2147483647 := by decide +kernel
  have c2 : (2000000000 : Int32).toInt = 2000000000 := by decide +kernel
  have a1 : ∀ k : Nat, k + 1 ≤ (f 280 2).toInt.toNat → x_room_a27 f a (k + 1) = y_room_a25 f a (k + 1) := by
    intro k
    have st : ∀ j : Nat, j < (f 280 2).toInt.toNat → (if a.toInt = 0 then ((f (18 + 4 * j) 0) * (3600 : Int32)) - (f (18 + 4 * j) 2) else f (18 + 4 * j) 2) = (if a.toInt = 0 then ((3600 : Int32) * (f 280 (444 + 61 * j + 0))) - (f 280 (444 + 61 * j + 1)) else f 280 (444 + 61 * j + 1)) ∧ (if a.toInt = 0 then ((3600 : Int32) * (f 280 (444 + 61 * j + 0))) - (f 280 (444 + 61 * j + 1)) else f 280 (444 + 61 * j + 1)).toInt < 2000000000 := fun j hj => by
      rw [I.capa hj, I.chg hj, Int32.mul_comm]
      refine ⟨rfl, ?_⟩
      obtain ⟨k1, k2, k3⟩ := I.ck hj
      have e := t2_36m k1
      obtain ⟨k4, k5⟩ := k1
      split
      · rw [at_sub32 (by omega) (by omega)]
        omega
      · omega
    induction k with
    | zero =>
      intro hk
      obtain ⟨e, hb⟩ := st 0 (by omega)
      show t2_min_v (2147483647 : Int32) (if a.toInt = 0 then ((f (18 + 4 * 0) 0) * (3600 : Int32)) - (f (18 + 4 * 0) 2) else f (18 + 4 * 0) 2) = r_lesser_v (2000000000 : Int32) (if a.toInt = 0 then ((3600 : Int32) * (f 280 (444 + 61 * 0 + 0))) - (f 280 (444 + 61 * 0 + 1)) else f 280 (444 + 61 * 0 + 1))
      rw [e, t2_les]
      generalize (if a.toInt = 0 then ((3600 : Int32) * (f 280 (444 + 61 * 0 + 0))) - (f 280 (444 + 61 * 0 + 1)) else f 280 (444 + 61 * 0 + 1)) = v at hb ⊢
      unfold t2_min_v
      rw [if_pos (by omega), if_pos (by omega)]
    | succ k ih =>
      intro hk
      obtain ⟨e, -⟩ := st (k + 1) (by omega)
      show t2_min_v (x_room_a27 f a (k + 1)) (if a.toInt = 0 then ((f (18 + 4 * (k + 1)) 0) * (3600 : Int32)) - (f (18 + 4 * (k + 1)) 2) else f (18 + 4 * (k + 1)) 2) = r_lesser_v (y_room_a25 f a (k + 1)) (if a.toInt = 0 then ((3600 : Int32) * (f 280 (444 + 61 * (k + 1) + 0))) - (f 280 (444 + 61 * (k + 1) + 1)) else f 280 (444 + 61 * (k + 1) + 1))
      rw [ih (by omega), e, t2_les]
  have n16 := I.rhu.1
  unfold x_room_v y_room_v
  rw [show (f 1 5) = f 280 2 from I.1.1.1]
  by_cases h : (f 280 2).toInt = 0
  · rw [if_pos h, if_pos h]
    rfl
  · obtain ⟨k, hk⟩ : ∃ k : Nat, (f 280 2).toInt.toNat = k + 1 := ⟨(f 280 2).toInt.toNat - 1, by omega⟩
    rw [if_neg h, if_neg h, hk, a1 k (by omega)]
    rfl
/-! ===== room, on both sides ===== -/
theorem t2_cmp_54 {L : Nat} {xs : Nat → Int32} {f : t2_F} {l : t2_L} {a : Int32} (_hall : ∀ c ∈ at_CM ++ at_CA, at_Valid at_XI (pw_P L xs) c) (hg : t2_Z (f, l)) : fl_Tq (pw_P L xs) 155 0 (fl_args (am_mxl (pw_P L xs) 155) [lx_x, .inl a]) [] (f, l) (t2_End L xs 291 [at_this, .inl a]) := by
  have I : c0_I f f := hg.2.1
  refine t2_qq (y := y_room_v f a) hg (fun Q k => x_room_q I.hc ?_) (fun Q k => y_room_q I.rhu.1 I.rhu.2 k)
  rw [x_room_e I]
  exact k

end

/-! 95.05.31p55.lean.txt -/
section
noncomputable def c0_goalPart_v (f : t2_F) : Int32 := if 0 < (lg_cmp (c0_allFull_v f) (0 : Int64)).toInt then (((c0_allCharge_v f) * (1000 : Int64)) / (c0_allFull_v f)).toInt32 else (-1 : Int32)
theorem c0_goalPart_q {L : Nat} {xs : Nat → Int32} {f : t2_F} {l : t2_L} {Q : Option fl_V → fl_M → Prop}  (hc : 0 ≤ (f 1 5).toInt ∧ (f 1 5).toInt ≤ 16) (k : Q (some (.inl (c0_goalPart_v f))) (f, l)) : fl_Tq (pw_P L xs) 44 0 (fl_args (am_mxl (pw_P L xs) 44) [.inr (.inr (.inl (1, 1)))]) [] (f, l) Q := by
  refine fl_Tq.stp (pc' := 1) (lv' := [some (.inr (.inr (.inl (1, 1)))), none, none]) (st' := [.inr (.inr (.inl (1, 1)))]) (m' := (f, l)) rfl rfl (fl_bo rfl) rfl ?_
  refine fl_Tq.cal rfl rfl (fl_bo rfl) rfl ?_
  refine c0_allFull_q hc ?_
  show fl_Tq _ 44 4 [some (.inr (.inr (.inl (1, 1)))), none, none] [.inr (.inl (c0_allFull_v f))] (f, l) _
  refine fl_Tq.stp (pc' := 5) (lv' := [some (.inr (.inr (.inl (1, 1)))), some (.inr (.inl (c0_allFull_v f))), none]) (st' := []) (m' := (f, l)) rfl rfl (fl_bo rfl) rfl ?_
  refine fl_Tq.stp (pc' := 6) (lv' := [some (.inr (.inr (.inl (1, 1)))), some (.inr (.inl (c0_allFull_v f))), none]) (st' := [.inr (.inl (c0_allFull_v f))]) (m' := (f, l)) rfl rfl (fl_bo rfl) rfl ?_
  refine fl_Tq.stp (pc' := 7) (lv' := [some (.inr (.inr (.inl (1, 1)))), some (.inr (.inl (c0_allFull_v f))), none]) (st' := [.inr (.inl (0 : Int64)), .inr (.inl (c0_allFull_v f))]) (m' := (f, l)) rfl rfl (fl_bo rfl) rfl ?_
  refine fl_Tq.stp (pc' := 8) (lv' := [some (.inr (.inr (.inl (1, 1)))), some (.inr (.inl (c0_allFull_v f))), none]) (st' := [.inl (lg_cmp (c0_allFull_v f) (0 : Int64))]) (m' := (f, l)) rfl rfl (fl_bo rfl) rfl ?_
  have hj190 : fl_Tq (pw_P L xs) 44 26 [some (.inr (.inr (.inl (1, 1)))), some (.inr (.inl (c0_allFull_v f))), none] [.inl (if 0 < (lg_cmp (c0_allFull_v f) (0 : Int64)).toInt then (((c0_allCharge_v f) * (1000 : Int64)) / (c0_allFull_v f)).toInt32 else (-1 : Int32))] (f, l) Q → fl_Tq (pw_P L xs) 44 8 [some (.inr (.inr (.inl (1, 1)))), some (.inr (.inl (c0_allFull_v f))), none] [.inl (lg_cmp (c0_allFull_v f) (0 : Int64))] (f, l) Q := by
    intro hJ
    by_cases h1 : 0 < (lg_cmp (c0_allFull_v f) (0 : Int64)).toInt
    · refine fl_Tq.zt rfl (fl_bo rfl) (c1_gt_t h1) rfl ?_
      refine fl_Tq.stp (pc' := 16) (lv' := [some (.inr (.inr (.inl (1, 1)))), some (.inr (.inl (c0_allFull_v f))), none]) (st' := [.inr (.inr (.inl (1, 1)))]) (m' := (f, l)) rfl rfl (fl_bo rfl) rfl ?_
      refine fl_Tq.cal rfl rfl (fl_bo rfl) rfl ?_
      refine c0_allCharge_q hc ?_
      show fl_Tq _ 44 19 [some (.inr (.inr (.inl (1, 1)))), some (.inr (.inl (c0_allFull_v f))), none] [.inr (.inl (c0_allCharge_v f))] (f, l) _
      refine fl_Tq.stp (pc' := 22) (lv' := [some (.inr (.inr (.inl (1, 1)))), some (.inr (.inl (c0_allFull_v f))), none]) (st' := [.inr (.inl (1000 : Int64)), .inr (.inl (c0_allCharge_v f))]) (m' := (f, l)) rfl rfl (fl_bo rfl) rfl ?_
      refine fl_Tq.stp (pc' := 23) (lv' := [some (.inr (.inr (.inl (1, 1)))), some (.inr (.inl (c0_allFull_v f))), none]) (st' := [.inr (.inl ((c0_allCharge_v f) * (1000 : Int64)))]) (m' := (f, l)) rfl rfl (fl_bo rfl) rfl ?_
      refine fl_Tq.stp (pc' := 24) (lv' := [some (.inr (.inr (.inl (1, 1)))), some (.inr (.inl (c0_allFull_v f))), none]) (st' := [.inr (.inl (c0_allFull_v f)), .inr (.inl ((c0_allCharge_v f) * (1000 : Int64)))]) (m' := (f, l)) rfl rfl (fl_bo rfl) rfl ?_
      refine fl_Tq.dvJ rfl (fl_bo rfl) (t2_nzl h1) ?_
      refine fl_Tq.stp (pc' := 26) (lv' := [some (.inr (.inr (.inl (1, 1)))), some (.inr (.inl (c0_allFull_v f))), none]) (st' := [.inl ((((c0_allCharge_v f) * (1000 : Int64)) / (c0_allFull_v f)).toInt32)]) (m' := (f, l)) rfl rfl (fl_bo rfl) rfl ?_
      have e0 : (if 0 < (lg_cmp (c0_allFull_v f) (0 : Int64)).toInt then (((c0_allCharge_v f) * (1000 : Int64)) / (c0_allFull_v f)).toInt32 else (-1 : Int32)) = (((c0_allCharge_v f) * (1000 : Int64)) / (c0_allFull_v f)).toInt32 := by simp only [if_pos h1]
      rw [e0] at hJ
      exact hJ
    · refine fl_Tq.zf rfl (fl_bo rfl) (c1_gt_f h1) rfl ?_
      refine fl_Tq.cI (c := (-1 : Int32)) rfl (by decide +kernel) (fl_bo rfl) ?_
      refine fl_Tq.stp (pc' := 26) (lv' := [some (.inr (.inr (.inl (1, 1)))), some (.inr (.inl (c0_allFull_v f))), none]) (st' := [.inl (-1 : Int32)]) (m' := (f, l)) rfl rfl (fl_bo rfl) rfl ?_
      have e0 : (if 0 < (lg_cmp (c0_allFull_v f) (0 : Int64)).toInt then (((c0_allCharge_v f) * (1000 : Int64)) / (c0_allFull_v f)).toInt32 else (-1 : Int32)) = (-1 : Int32) := by simp only [if_neg h1]
      rw [e0] at hJ
      exact hJ
  refine hj190 ?_
  show fl_Tq _ 44 26 [some (.inr (.inr (.inl (1, 1)))), some (.inr (.inl (c0_allFull_v f))), none] [.inl (if 0 < (lg_cmp (c0_allFull_v f) (0 : Int64)).toInt then (((c0_allCharge_v f) * (1000 : Int64)) / (c0_allFull_v f)).toInt32 else (-1 : Int32))] (f, l) _
  exact fl_Tq.ret rfl rfl rfl k
noncomputable def y_goalOf_a7 (f : t2_F) : Nat → Int64 × Int64
  | 0 => ((0 : Int64), (0 : Int64))
  | k7 + 1 => (((y_goalOf_a7 f k7).1) + ((f 280 (444 + 61 * k7 + 1)).toInt64), ((y_goalOf_a7 f k7).2) + (((3600 : Int32) * (f 280 (444 + 61 * k7 + 0))).toInt64))
noncomputable def y_goalOf_v (f : t2_F) : Int32 := (((1000 : Int64) * ((y_goalOf_a7 f ((f 280 2).toInt.toNat)).1)) / ((y_goalOf_a7 f ((f 280 2).toInt.toNat)).2)).toInt32
theorem y_goalOf_q {L : Nat} {xs : Nat → Int32} {f : t2_F} {l : t2_L} {Q : Option fl_V → fl_M → Prop}  (hn : 0 ≤ (f 280 2).toInt ∧ (f 280 2).toInt ≤ 16) (hx : (y_goalOf_a7 f ((f 280 2).toInt.toNat)).2 ≠ 0) (k : Q (some (.inl (y_goalOf_v f))) (f, l)) : fl_Tq (pw_P L xs) 299 0 (fl_args (am_mxl (pw_P L xs) 299) [.inr (.inr (.inl (76, 277)))]) [] (f, l) Q := by
  refine fl_Tq.stp (pc' := 1) (lv' := [some (.inr (.inr (.inl (76, 277)))), none, none, none, none, none]) (st' := [.inr (.inl (0 : Int64))]) (m' := (f, l)) rfl rfl (fl_bo rfl) rfl ?_
  refine fl_Tq.stp (pc' := 2) (lv' := [some (.inr (.inr (.inl (76, 277)))), some (.inr (.inl (0 : Int64))), none, none, none, none]) (st' := []) (m' := (f, l)) rfl rfl (fl_bo rfl) rfl ?_
  refine fl_Tq.stp (pc' := 3) (lv' := [some (.inr (.inr (.inl (76, 277)))), some (.inr (.inl (0 : Int64))), none, none, none, none]) (st' := [.inr (.inl (0 : Int64))]) (m' := (f, l)) rfl rfl (fl_bo rfl) rfl ?_
  refine fl_Tq.stp (pc' := 4) (lv' := [some (.inr (.inr (.inl (76, 277)))), some (.inr (.inl (0 : Int64))), none, some (.inr (.inl (0 : Int64))), none, none]) (st' := []) (m' := (f, l)) rfl rfl (fl_bo rfl) rfl ?_
  refine fl_Tq.cI (c := (0 : Int32)) rfl (by decide +kernel) (fl_bo rfl) ?_
  refine fl_Tq.stp (pc' := 7) (lv' := [some (.inr (.inr (.inl (76, 277)))), some (.inr (.inl (0 : Int64))), none, some (.inr (.inl (0 : Int64))), none, some (.inl (0 : Int32))]) (st' := []) (m' := (f, l)) rfl rfl (fl_bo rfl) rfl ?_
  have hs7 : ∀ k7 : Nat, k7 < (f 280 2).toInt.toNat → fl_Tq (pw_P L xs) 299 7 [some (.inr (.inr (.inl (76, 277)))), some (.inr (.inl ((y_goalOf_a7 f (k7 + 1)).1))), none, some (.inr (.inl ((y_goalOf_a7 f (k7 + 1)).2))), none, some (.inl (Int32.ofNat (k7 + 1)))] [] (f, l) Q → fl_Tq (pw_P L xs) 299 7 [some (.inr (.inr (.inl (76, 277)))), some (.inr (.inl ((y_goalOf_a7 f k7).1))), none, some (.inr (.inl ((y_goalOf_a7 f k7).2))), none, some (.inl (Int32.ofNat k7))] [] (f, l) Q := by
    intro k7 hk7 hS
    refine fl_Tq.stp (pc' := 9) (lv' := [some (.inr (.inr (.inl (76, 277)))), some (.inr (.inl ((y_goalOf_a7 f k7).1))), none, some (.inr (.inl ((y_goalOf_a7 f k7).2))), none, some (.inl (Int32.ofNat k7))]) (st' := [.inl (Int32.ofNat k7)]) (m' := (f, l)) rfl rfl (fl_bo rfl) rfl ?_
    refine fl_Tq.stp (pc' := 10) (lv' := [some (.inr (.inr (.inl (76, 277)))), some (.inr (.inl ((y_goalOf_a7 f k7).1))), none, some (.inr (.inl ((y_goalOf_a7 f k7).2))), none, some (.inl (Int32.ofNat k7))]) (st' := [.inr (.inr (.inl (76, 277))), .inl (Int32.ofNat k7)]) (m' := (f, l)) rfl rfl (fl_bo rfl) rfl ?_
    refine fl_Tq.stp (pc' := 13) (lv' := [some (.inr (.inr (.inl (76, 277)))), some (.inr (.inl ((y_goalOf_a7 f k7).1))), none, some (.inr (.inl ((y_goalOf_a7 f k7).2))), none, some (.inl (Int32.ofNat k7))]) (st' := [.inr (.inr (.inl (79, 280))), .inl (Int32.ofNat k7)]) (m' := (f, l)) rfl rfl (fl_bo rfl) rfl ?_
    refine fl_Tq.cI (c := (2 : Int32)) rfl (by decide +kernel) (fl_bo rfl) ?_
    refine fl_Tq.ldV (p := 280) (τ := 79) (n := 29780) (z := (0, 0, 0)) (k := 2) (v := f 280 2) rfl (fl_bo rfl) rfl (by decide +kernel) (by decide) rfl ?_
    refine fl_Tq.jf rfl (fl_bo rfl) (c2_ge_f (t2_lk hk7 (t2_nn hn.1))) rfl ?_
    refine fl_Tq.stp (pc' := 19) (lv' := [some (.inr (.inr (.inl (76, 277)))), some (.inr (.inl ((y_goalOf_a7 f k7).1))), none, some (.inr (.inl ((y_goalOf_a7 f k7).2))), none, some (.inl (Int32.ofNat k7))]) (st' := [.inr (.inl ((y_goalOf_a7 f k7).1))]) (m' := (f, l)) rfl rfl (fl_bo rfl) rfl ?_
    refine fl_Tq.stp (pc' := 20) (lv' := [some (.inr (.inr (.inl (76, 277)))), some (.inr (.inl ((y_goalOf_a7 f k7).1))), none, some (.inr (.inl ((y_goalOf_a7 f k7).2))), none, some (.inl (Int32.ofNat k7))]) (st' := [.inr (.inr (.inl (76, 277))), .inr (.inl ((y_goalOf_a7 f k7).1))]) (m' := (f, l)) rfl rfl (fl_bo rfl) rfl ?_
    refine fl_Tq.stp (pc' := 22) (lv' := [some (.inr (.inr (.inl (76, 277)))), some (.inr (.inl ((y_goalOf_a7 f k7).1))), none, some (.inr (.inl ((y_goalOf_a7 f k7).2))), none, some (.inl (Int32.ofNat k7))]) (st' := [.inl (Int32.ofNat k7), .inr (.inr (.inl (76, 277))), .inr (.inl ((y_goalOf_a7 f k7).1))]) (m' := (f, l)) rfl rfl (fl_bo rfl) rfl ?_
    refine fl_Tq.cI (c := (1 : Int32)) rfl (by decide +kernel) (fl_bo rfl) ?_
    refine fl_Tq.cal rfl rfl (fl_bo rfl) rfl ?_
    refine t2_get (C := k7) (W := 1) (v := f 280 (444 + 61 * k7 + 1)) (at_ofN (by omega)) (by decide +kernel) (by omega) (by decide) rfl ?_
    show fl_Tq _ 299 26 [some (.inr (.inr (.inl (76, 277)))), some (.inr (.inl ((y_goalOf_a7 f k7).1))), none, some (.inr (.inl ((y_goalOf_a7 f k7).2))), none, some (.inl (Int32.ofNat k7))] [.inl (f 280 (444 + 61 * k7 + 1)), .inr (.inl ((y_goalOf_a7 f k7).1))] (f, l) _
    refine fl_Tq.stp (pc' := 27) (lv' := [some (.inr (.inr (.inl (76, 277)))), some (.inr (.inl ((y_goalOf_a7 f k7).1))), none, some (.inr (.inl ((y_goalOf_a7 f k7).2))), none, some (.inl (Int32.ofNat k7))]) (st' := [.inr (.inl ((f 280 (444 + 61 * k7 + 1)).toInt64)), .inr (.inl ((y_goalOf_a7 f k7).1))]) (m' := (f, l)) rfl rfl (fl_bo rfl) rfl ?_
    refine fl_Tq.stp (pc' := 28) (lv' := [some (.inr (.inr (.inl (76, 277)))), some (.inr (.inl ((y_goalOf_a7 f k7).1))), none, some (.inr (.inl ((y_goalOf_a7 f k7).2))), none, some (.inl (Int32.ofNat k7))]) (st' := [.inr (.inl (((y_goalOf_a7 f k7).1) + ((f 280 (444 + 61 * k7 + 1)).toInt64)))]) (m' := (f, l)) rfl rfl (fl_bo rfl) rfl ?_
    refine fl_Tq.stp (pc' := 29) (lv' := [some (.inr (.inr (.inl (76, 277)))), some (.inr (.inl (((y_goalOf_a7 f k7).1) + ((f 280 (444 + 61 * k7 + 1)).toInt64)))), none, some (.inr (.inl ((y_goalOf_a7 f k7).2))), none, some (.inl (Int32.ofNat k7))]) (st' := []) (m' := (f, l)) rfl rfl (fl_bo rfl) rfl ?_
    refine fl_Tq.stp (pc' := 30) (lv' := [some (.inr (.inr (.inl (76, 277)))), some (.inr (.inl (((y_goalOf_a7 f k7).1) + ((f 280 (444 + 61 * k7 + 1)).toInt64)))), none, some (.inr (.inl ((y_goalOf_a7 f k7).2))), none, some (.inl (Int32.ofNat k7))]) (st' := [.inr (.inl ((y_goalOf_a7 f k7).2))]) (m' := (f, l)) rfl rfl (fl_bo rfl) rfl ?_
    refine fl_Tq.stp (pc' := 31) (lv' := [some (.inr (.inr (.inl (76, 277)))), some (.inr (.inl (((y_goalOf_a7 f k7).1) + ((f 280 (444 + 61 * k7 + 1)).toInt64)))), none, some (.inr (.inl ((y_goalOf_a7 f k7).2))), none, some (.inl (Int32.ofNat k7))]) (st' := [.inr (.inr (.inl (76, 277))), .inr (.inl ((y_goalOf_a7 f k7).2))]) (m' := (f, l)) rfl rfl (fl_bo rfl) rfl ?_
    refine fl_Tq.stp (pc' := 33) (lv' := [some (.inr (.inr (.inl (76, 277)))), some (.inr (.inl (((y_goalOf_a7 f k7).1) + ((f 280 (444 + 61 * k7 + 1)).toInt64)))), none, some (.inr (.inl ((y_goalOf_a7 f k7).2))), none, some (.inl (Int32.ofNat k7))]) (st' := [.inl (Int32.ofNat k7), .inr (.inr (.inl (76, 277))), .inr (.inl ((y_goalOf_a7 f k7).2))]) (m' := (f, l)) rfl rfl (fl_bo rfl) rfl ?_
    refine fl_Tq.cal rfl rfl (fl_bo rfl) rfl ?_
    refine fl_Tq.cS (c := (3600 : Int32)) rfl (by decide +kernel) (fl_bo rfl) ?_
    refine fl_Tq.stp (pc' := 4) (lv' := [some (.inr (.inr (.inl (76, 277)))), some (.inl (Int32.ofNat k7))]) (st' := [.inr (.inr (.inl (76, 277))), .inl (3600 : Int32)]) (m' := (f, l)) rfl rfl (fl_bo rfl) rfl ?_
    refine fl_Tq.stp (pc' := 5) (lv' := [some (.inr (.inr (.inl (76, 277)))), some (.inl (Int32.ofNat k7))]) (st' := [.inl (Int32.ofNat k7), .inr (.inr (.inl (76, 277))), .inl (3600 : Int32)]) (m' := (f, l)) rfl rfl (fl_bo rfl) rfl ?_
    refine fl_Tq.cI (c := (0 : Int32)) rfl (by decide +kernel) (fl_bo rfl) ?_
    refine fl_Tq.cal rfl rfl (fl_bo rfl) rfl ?_
    refine t2_get (C := k7) (W := 0) (v := f 280 (444 + 61 * k7 + 0)) (at_ofN (by omega)) (by decide +kernel) (by omega) (by decide) rfl ?_
    show fl_Tq _ 195 9 [some (.inr (.inr (.inl (76, 277)))), some (.inl (Int32.ofNat k7))] [.inl (f 280 (444 + 61 * k7 + 0)), .inl (3600 : Int32)] (f, l) _
    refine fl_Tq.stp (pc' := 10) (lv' := [some (.inr (.inr (.inl (76, 277)))), some (.inl (Int32.ofNat k7))]) (st' := [.inl ((3600 : Int32) * (f 280 (444 + 61 * k7 + 0)))]) (m' := (f, l)) rfl rfl (fl_bo rfl) rfl ?_
    refine fl_Tq.ret rfl rfl rfl ?_
    show fl_Tq _ 299 36 [some (.inr (.inr (.inl (76, 277)))), some (.inr (.inl (((y_goalOf_a7 f k7).1) + ((f 280 (444 + 61 * k7 + 1)).toInt64)))), none, some (.inr (.inl ((y_goalOf_a7 f k7).2))), none, some (.inl (Int32.ofNat k7))] [.inl ((3600 : Int32) * (f 280 (444 + 61 * k7 + 0))), .inr (.inl ((y_goalOf_a7 f k7).2))] (f, l) _
    refine fl_Tq.stp (pc' := 37) (lv' := [some (.inr (.inr (.inl (76, 277)))), some (.inr (.inl (((y_goalOf_a7 f k7).1) + ((f 280 (444 + 61 * k7 + 1)).toInt64)))), none, some (.inr (.inl ((y_goalOf_a7 f k7).2))), none, some (.inl (Int32.ofNat k7))]) (st' := [.inr (.inl (((3600 : Int32) * (f 280 (444 + 61 * k7 + 0))).toInt64)), .inr (.inl ((y_goalOf_a7 f k7).2))]) (m' := (f, l)) rfl rfl (fl_bo rfl) rfl ?_
    refine fl_Tq.stp (pc' := 38) (lv' := [some (.inr (.inr (.inl (76, 277)))), some (.inr (.inl (((y_goalOf_a7 f k7).1) + ((f 280 (444 + 61 * k7 + 1)).toInt64)))), none, some (.inr (.inl ((y_goalOf_a7 f k7).2))), none, some (.inl (Int32.ofNat k7))]) (st' := [.inr (.inl (((y_goalOf_a7 f k7).2) + (((3600 : Int32) * (f 280 (444 + 61 * k7 + 0))).toInt64)))]) (m' := (f, l)) rfl rfl (fl_bo rfl) rfl ?_
    refine fl_Tq.stp (pc' := 39) (lv' := [some (.inr (.inr (.inl (76, 277)))), some (.inr (.inl (((y_goalOf_a7 f k7).1) + ((f 280 (444 + 61 * k7 + 1)).toInt64)))), none, some (.inr (.inl (((y_goalOf_a7 f k7).2) + (((3600 : Int32) * (f 280 (444 + 61 * k7 + 0))).toInt64)))), none, some (.inl (Int32.ofNat k7))]) (st' := []) (m' := (f, l)) rfl rfl (fl_bo rfl) rfl ?_
    refine fl_Tq.stp (pc' := 42) (lv' := [some (.inr (.inr (.inl (76, 277)))), some (.inr (.inl (((y_goalOf_a7 f k7).1) + ((f 280 (444 + 61 * k7 + 1)).toInt64)))), none, some (.inr (.inl (((y_goalOf_a7 f k7).2) + (((3600 : Int32) * (f 280 (444 + 61 * k7 + 0))).toInt64)))), none, some (.inl ((Int32.ofNat k7) + (1 : Int32)))]) (st' := []) (m' := (f, l)) rfl rfl (fl_bo rfl) rfl ?_
    refine fl_Tq.stp (pc' := 7) (lv' := [some (.inr (.inr (.inl (76, 277)))), some (.inr (.inl (((y_goalOf_a7 f k7).1) + ((f 280 (444 + 61 * k7 + 1)).toInt64)))), none, some (.inr (.inl (((y_goalOf_a7 f k7).2) + (((3600 : Int32) * (f 280 (444 + 61 * k7 + 0))).toInt64)))), none, some (.inl ((Int32.ofNat k7) + (1 : Int32)))]) (st' := []) (m' := (f, l)) rfl rfl (fl_bo rfl) rfl ?_
    have ea : y_goalOf_a7 f (k7 + 1) = (((y_goalOf_a7 f k7).1) + ((f 280 (444 + 61 * k7 + 1)).toInt64), ((y_goalOf_a7 f k7).2) + (((3600 : Int32) * (f 280 (444 + 61 * k7 + 0))).toInt64)) := by
      show ((((y_goalOf_a7 f k7).1) + ((f 280 (444 + 61 * k7 + 1)).toInt64), ((y_goalOf_a7 f k7).2) + (((3600 : Int32) * (f 280 (444 + 61 * k7 + 0))).toInt64))) = _
      rfl
    rw [ea, ← t2_k1] at hS
    exact hS
  refine t2_for (S := fun k7 => fl_Tq (pw_P L xs) 299 7 [some (.inr (.inr (.inl (76, 277)))), some (.inr (.inl ((y_goalOf_a7 f k7).1))), none, some (.inr (.inl ((y_goalOf_a7 f k7).2))), none, some (.inl (Int32.ofNat k7))] [] (f, l) Q) hs7 ?_
  show fl_Tq (pw_P L xs) 299 7 [some (.inr (.inr (.inl (76, 277)))), some (.inr (.inl ((y_goalOf_a7 f ((f 280 2).toInt.toNat)).1))), none, some (.inr (.inl ((y_goalOf_a7 f ((f 280 2).toInt.toNat)).2))), none, some (.inl (Int32.ofNat ((f 280 2).toInt.toNat)))] [] (f, l) _
  refine fl_Tq.stp (pc' := 9) (lv' := [some (.inr (.inr (.inl (76, 277)))), some (.inr (.inl ((y_goalOf_a7 f ((f 280 2).toInt.toNat)).1))), none, some (.inr (.inl ((y_goalOf_a7 f ((f 280 2).toInt.toNat)).2))), none, some (.inl (Int32.ofNat ((f 280 2).toInt.toNat)))]) (st' := [.inl (Int32.ofNat ((f 280 2).toInt.toNat))]) (m' := (f, l)) rfl rfl (fl_bo rfl) rfl ?_
  refine fl_Tq.stp (pc' := 10) (lv' := [some (.inr (.inr (.inl (76, 277)))), some (.inr (.inl ((y_goalOf_a7 f ((f 280 2).toInt.toNat)).1))), none, some (.inr (.inl ((y_goalOf_a7 f ((f 280 2).toInt.toNat)).2))), none, some (.inl (Int32.ofNat ((f 280 2).toInt.toNat)))]) (st' := [.inr (.inr (.inl (76, 277))), .inl (Int32.ofNat ((f 280 2).toInt.toNat))]) (m' := (f, l)) rfl rfl (fl_bo rfl) rfl ?_
  refine fl_Tq.stp (pc' := 13) (lv' := [some (.inr (.inr (.inl (76, 277)))), some (.inr (.inl ((y_goalOf_a7 f ((f 280 2).toInt.toNat)).1))), none, some (.inr (.inl ((y_goalOf_a7 f ((f 280 2).toInt.toNat)).2))), none, some (.inl (Int32.ofNat ((f 280 2).toInt.toNat)))]) (st' := [.inr (.inr (.inl (79, 280))), .inl (Int32.ofNat ((f 280 2).toInt.toNat))]) (m' := (f, l)) rfl rfl (fl_bo rfl) rfl ?_
  refine fl_Tq.cI (c := (2 : Int32)) rfl (by decide +kernel) (fl_bo rfl) ?_
  refine fl_Tq.ldV (p := 280) (τ := 79) (n := 29780) (z := (0, 0, 0)) (k := 2) (v := f 280 2) rfl (fl_bo rfl) rfl (by decide +kernel) (by decide) rfl ?_
  refine fl_Tq.jt rfl (fl_bo rfl) (c2_ge_t (t2_ln (t2_nn hn.1))) rfl ?_
  refine fl_Tq.stp (pc' := 48) (lv' := [some (.inr (.inr (.inl (76, 277)))), some (.inr (.inl ((y_goalOf_a7 f ((f 280 2).toInt.toNat)).1))), none, some (.inr (.inl ((y_goalOf_a7 f ((f 280 2).toInt.toNat)).2))), none, some (.inl (Int32.ofNat ((f 280 2).toInt.toNat)))]) (st' := [.inr (.inl (1000 : Int64))]) (m' := (f, l)) rfl rfl (fl_bo rfl) rfl ?_
  refine fl_Tq.stp (pc' := 49) (lv' := [some (.inr (.inr (.inl (76, 277)))), some (.inr (.inl ((y_goalOf_a7 f ((f 280 2).toInt.toNat)).1))), none, some (.inr (.inl ((y_goalOf_a7 f ((f 280 2).toInt.toNat)).2))), none, some (.inl (Int32.ofNat ((f 280 2).toInt.toNat)))]) (st' := [.inr (.inl ((y_goalOf_a7 f ((f 280 2).toInt.toNat)).1)), .inr (.inl (1000 : Int64))]) (m' := (f, l)) rfl rfl (fl_bo rfl) rfl ?_
  refine fl_Tq.stp (pc' := 50) (lv' := [some (.inr (.inr (.inl (76, 277)))), some (.inr (.inl ((y_goalOf_a7 f ((f 280 2).toInt.toNat)).1))), none, some (.inr (.inl ((y_goalOf_a7 f ((f 280 2).toInt.toNat)).2))), none, some (.inl (Int32.ofNat ((f 280 2).toInt.toNat)))]) (st' := [.inr (.inl ((1000 : Int64) * ((y_goalOf_a7 f ((f 280 2).toInt.toNat)).1)))]) (m' := (f, l)) rfl rfl (fl_bo rfl) rfl ?_
  refine fl_Tq.stp (pc' := 51) (lv' := [some (.inr (.inr (.inl (76, 277)))), some (.inr (.inl ((y_goalOf_a7 f ((f 280 2).toInt.toNat)).1))), none, some (.inr (.inl ((y_goalOf_a7 f ((f 280 2).toInt.toNat)).2))), none, some (.inl (Int32.ofNat ((f 280 2).toInt.toNat)))]) (st' := [.inr (.inl ((y_goalOf_a7 f ((f 280 2).toInt.toNat)).2)), .inr (.inl ((1000 : Int64) * ((y_goalOf_a7 f ((f 280 2).toInt.toNat)).1)))]) (m' := (f, l)) rfl rfl (fl_bo rfl) rfl ?_
  refine fl_Tq.dvJ rfl (fl_bo rfl) hx ?_
  refine fl_Tq.stp (pc' := 53) (lv' := [some (.inr (.inr (.inl (76, 277)))), some (.inr (.inl ((y_goalOf_a7 f ((f 280 2).toInt.toNat)).1))), none, some (.inr (.inl ((y_goalOf_a7 f ((f 280 2).toInt.toNat)).2))), none, some (.inl (Int32.ofNat ((f 280 2).toInt.toNat)))]) (st' := [.inl ((((1000 : Int64) * ((y_goalOf_a7 f ((f 280 2).toInt.toNat)).1)) / ((y_goalOf_a7 f ((f 280 2).toInt.toNat)).2)).toInt32)]) (m' := (f, l)) rfl rfl (fl_bo rfl) rfl ?_
  exact fl_Tq.ret rfl rfl rfl k
theorem y_fu_A {L : Nat} {xs : Nat → Int32} {f : t2_F} {l : t2_L} {Q : Option fl_V → fl_M → Prop}   (k : fl_Tq (pw_P L xs) 292 7 [some (.inr (.inr (.inl (76, 277)))), some (.inr (.inl (0 : Int64))), none, some (.inr (.inl (0 : Int64))), none, some (.inl (0 : Int32))] [] (f, l) Q) : fl_Tq (pw_P L xs) 292 0 [some (.inr (.inr (.inl (76, 277)))), none, none, none, none, none] [] (f, l) Q := by
  refine fl_Tq.stp (pc' := 1) (lv' := [some (.inr (.inr (.inl (76, 277)))), none, none, none, none, none]) (st' := [.inr (.inl (0 : Int64))]) (m' := (f, l)) rfl rfl (fl_bo rfl) rfl ?_
  refine fl_Tq.stp (pc' := 2) (lv' := [some (.inr (.inr (.inl (76, 277)))), some (.inr (.inl (0 : Int64))), none, none, none, none]) (st' := []) (m' := (f, l)) rfl rfl (fl_bo rfl) rfl ?_
  refine fl_Tq.stp (pc' := 3) (lv' := [some (.inr (.inr (.inl (76, 277)))), some (.inr (.inl (0 : Int64))), none, none, none, none]) (st' := [.inr (.inl (0 : Int64))]) (m' := (f, l)) rfl rfl (fl_bo rfl) rfl ?_
  refine fl_Tq.stp (pc' := 4) (lv' := [some (.inr (.inr (.inl (76, 277)))), some (.inr (.inl (0 : Int64))), none, some (.inr (.inl (0 : Int64))), none, none]) (st' := []) (m' := (f, l)) rfl rfl (fl_bo rfl) rfl ?_
  refine fl_Tq.cI (c := (0 : Int32)) rfl (by decide +kernel) (fl_bo rfl) ?_
  refine fl_Tq.stp (pc' := 7) (lv' := [some (.inr (.inr (.inl (76, 277)))), some (.inr (.inl (0 : Int64))), none, some (.inr (.inl (0 : Int64))), none, some (.inl (0 : Int32))]) (st' := []) (m' := (f, l)) rfl rfl (fl_bo rfl) rfl ?_
  exact k
theorem y_fu_B {L : Nat} {xs : Nat → Int32} {f : t2_F} {l : t2_L} {Q : Option fl_V → fl_M → Prop} {s t : Int64} {C : Nat} (hC : C < 16) (hkk : (Int32.ofNat C).toInt < (f 280 2).toInt) (k : fl_Tq (pw_P L xs) 292 7 [some (.inr (.inr (.inl (76, 277)))), some (.inr (.inl (s + ((f 280 (444 + 61 * C + 1)).toInt64)))), none, some (.inr (.inl (t + (((3600 : Int32) * (f 280 (444 + 61 * C + 0))).toInt64)))), none, some (.inl ((Int32.ofNat C) + (1 : Int32)))] [] (f, l) Q) : fl_Tq (pw_P L xs) 292 7 [some (.inr (.inr (.inl (76, 277)))), some (.inr (.inl s)), none, some (.inr (.inl t)), none, some (.inl (Int32.ofNat C))] [] (f, l) Q := by
  refine fl_Tq.stp (pc' := 9) (lv' := [some (.inr (.inr (.inl (76, 277)))), some (.inr (.inl s)), none, some (.inr (.inl t)), none, some (.inl (Int32.ofNat C))]) (st' := [.inl (Int32.ofNat C)]) (m' := (f, l)) rfl rfl (fl_bo rfl) rfl ?_
  refine fl_Tq.stp (pc' := 10) (lv' := [some (.inr (.inr (.inl (76, 277)))), some (.inr (.inl s)), none, some (.inr (.inl t)), none, some (.inl (Int32.ofNat C))]) (st' := [.inr (.inr (.inl (76, 277))), .inl (Int32.ofNat C)]) (m' := (f, l)) rfl rfl (fl_bo rfl) rfl ?_
  refine fl_Tq.stp (pc' := 13) (lv' := [some (.inr (.inr (.inl (76, 277)))), some (.inr (.inl s)), none, some (.inr (.inl t)), none, some (.inl (Int32.ofNat C))]) (st' := [.inr (.inr (.inl (79, 280))), .inl (Int32.ofNat C)]) (m' := (f, l)) rfl rfl (fl_bo rfl) rfl ?_
  refine fl_Tq.cI (c := (2 : Int32)) rfl (by decide +kernel) (fl_bo rfl) ?_
  refine fl_Tq.ldV (p := 280) (τ := 79) (n := 29780) (z := (0, 0, 0)) (k := 2) (v := f 280 2) rfl (fl_bo rfl) rfl (by decide +kernel) (by decide) rfl ?_
  refine fl_Tq.jf rfl (fl_bo rfl) (c2_ge_f hkk) rfl ?_
  refine fl_Tq.stp (pc' := 19) (lv' := [some (.inr (.inr (.inl (76, 277)))), some (.inr (.inl s)), none, some (.inr (.inl t)), none, some (.inl (Int32.ofNat C))]) (st' := [.inr (.inl s)]) (m' := (f, l)) rfl rfl (fl_bo rfl) rfl ?_
  refine fl_Tq.stp (pc' := 20) (lv' := [some (.inr (.inr (.inl (76, 277)))), some (.inr (.inl s)), none, some (.inr (.inl t)), none, some (.inl (Int32.ofNat C))]) (st' := [.inr (.inr (.inl (76, 277))), .inr (.inl s)]) (m' := (f, l)) rfl rfl (fl_bo rfl) rfl ?_
  refine fl_Tq.stp (pc' := 22) (lv' := [some (.inr (.inr (.inl (76, 277)))), some (.inr (.inl s)), none, some (.inr (.inl t)), none, some (.inl (Int32.ofNat C))]) (st' := [.inl (Int32.ofNat C), .inr (.inr (.inl (76, 277))), .inr (.inl s)]) (m' := (f, l)) rfl rfl (fl_bo rfl) rfl ?_
  refine fl_Tq.cI (c := (1 : Int32)) rfl (by decide +kernel) (fl_bo rfl) ?_
  refine fl_Tq.cal rfl rfl (fl_bo rfl) rfl ?_
  refine t2_get (C := C) (W := 1) (v := f 280 (444 + 61 * C + 1)) (at_ofN (by omega)) (by decide +kernel) (by omega) (by decide) rfl ?_
  show fl_Tq _ 292 26 [some (.inr (.inr (.inl (76, 277)))), some (.inr (.inl s)), none, some (.inr (.inl t)), none, some (.inl (Int32.ofNat C))] [.inl (f 280 (444 + 61 * C + 1)), .inr (.inl s)] (f, l) _
  refine fl_Tq.stp (pc' := 27) (lv' := [some (.inr (.inr (.inl (76, 277)))), some (.inr (.inl s)), none, some (.inr (.inl t)), none, some (.inl (Int32.ofNat C))]) (st' := [.inr (.inl ((f 280 (444 + 61 * C + 1)).toInt64)), .inr (.inl s)]) (m' := (f, l)) rfl rfl (fl_bo rfl) rfl ?_
  refine fl_Tq.stp (pc' := 28) (lv' := [some (.inr (.inr (.inl (76, 277)))), some (.inr (.inl s)), none, some (.inr (.inl t)), none, some (.inl (Int32.ofNat C))]) (st' := [.inr (.inl (s + ((f 280 (444 + 61 * C + 1)).toInt64)))]) (m' := (f, l)) rfl rfl (fl_bo rfl) rfl ?_
  refine fl_Tq.stp (pc' := 29) (lv' := [some (.inr (.inr (.inl (76, 277)))), some (.inr (.inl (s + ((f 280 (444 + 61 * C + 1)).toInt64)))), none, some (.inr (.inl t)), none, some (.inl (Int32.ofNat C))]) (st' := []) (m' := (f, l)) rfl rfl (fl_bo rfl) rfl ?_
  refine fl_Tq.stp (pc' := 30) (lv' := [some (.inr (.inr (.inl (76, 277)))), some (.inr (.inl (s + ((f 280 (444 + 61 * C + 1)).toInt64)))), none, some (.inr (.inl t)), none, some (.inl (Int32.ofNat C))]) (st' := [.inr (.inl t)]) (m' := (f, l)) rfl rfl (fl_bo rfl) rfl ?_
  refine fl_Tq.stp (pc' := 31) (lv' := [some (.inr (.inr (.inl (76, 277)))), some (.inr (.inl (s + ((f 280 (444 + 61 * C + 1)).toInt64)))), none, some (.inr (.inl t)), none, some (.inl (Int32.ofNat C))]) (st' := [.inr (.inr (.inl (76, 277))), .inr (.inl t)]) (m' := (f, l)) rfl rfl (fl_bo rfl) rfl ?_
  refine fl_Tq.stp (pc' := 33) (lv' := [some (.inr (.inr (.inl (76, 277)))), some (.inr (.inl (s + ((f 280 (444 + 61 * C + 1)).toInt64)))), none, some (.inr (.inl t)), none, some (.inl (Int32.ofNat C))]) (st' := [.inl (Int32.ofNat C), .inr (.inr (.inl (76, 277))), .inr (.inl t)]) (m' := (f, l)) rfl rfl (fl_bo rfl) rfl ?_
  refine fl_Tq.cal rfl rfl (fl_bo rfl) rfl ?_
  refine fl_Tq.cS (c := (3600 : Int32)) rfl (by decide +kernel) (fl_bo rfl) ?_
  refine fl_Tq.stp (pc' := 4) (lv' := [some (.inr (.inr (.inl (76, 277)))), some (.inl (Int32.ofNat C))]) (st' := [.inr (.inr (.inl (76, 277))), .inl (3600 : Int32)]) (m' := (f, l)) rfl rfl (fl_bo rfl) rfl ?_
  refine fl_Tq.stp (pc' := 5) (lv' := [some (.inr (.inr (.inl (76, 277)))), some (.inl (Int32.ofNat C))]) (st' := [.inl (Int32.ofNat C), .inr (.inr (.inl (76, 277))), .inl (3600 : Int32)]) (m' := (f, l)) rfl rfl (fl_bo rfl) rfl ?_
  refine fl_Tq.cI (c := (0 : Int32)) rfl (by decide +kernel) (fl_bo rfl) ?_
  refine fl_Tq.cal rfl rfl (fl_bo rfl) rfl ?_
  refine t2_get (C := C) (W := 0) (v := f 280 (444 + 61 * C + 0)) (at_ofN (by omega)) (by decide +kernel) (by omega) (by decide) rfl ?_
  show fl_Tq _ 195 9 [some (.inr (.inr (.inl (76, 277)))), some (.inl (Int32.ofNat C))] [.inl (f 280 (444 + 61 * C + 0)), .inl (3600 : Int32)] (f, l) _
  refine fl_Tq.stp (pc' := 10) (lv' := [some (.inr (.inr (.inl (76, 277)))), some (.inl (Int32.ofNat C))]) (st' := [.inl ((3600 : Int32) * (f 280 (444 + 61 * C + 0)))]) (m' := (f, l)) rfl rfl (fl_bo rfl) rfl ?_
  refine fl_Tq.ret rfl rfl rfl ?_
  show fl_Tq _ 292 36 [some (.inr (.inr (.inl (76, 277)))), some (.inr (.inl (s + ((f 280 (444 + 61 * C + 1)).toInt64)))), none, some (.inr (.inl t)), none, some (.inl (Int32.ofNat C))] [.inl ((3600 : Int32) * (f 280 (444 + 61 * C + 0))), .inr (.inl t)] (f, l) _
  refine fl_Tq.stp (pc' := 37) (lv' := [some (.inr (.inr (.inl (76, 277)))), some (.inr (.inl (s + ((f 280 (444 + 61 * C + 1)).toInt64)))), none, some (.inr (.inl t)), none, some (.inl (Int32.ofNat C))]) (st' := [.inr (.inl (((3600 : Int32) * (f 280 (444 + 61 * C + 0))).toInt64)), .inr (.inl t)]) (m' := (f, l)) rfl rfl (fl_bo rfl) rfl ?_
  refine fl_Tq.stp (pc' := 38) (lv' := [some (.inr (.inr (.inl (76, 277)))), some (.inr (.inl (s + ((f 280 (444 + 61 * C + 1)).toInt64)))), none, some (.inr (.inl t)), none, some (.inl (Int32.ofNat C))]) (st' := [.inr (.inl (t + (((3600 : Int32) * (f 280 (444 + 61 * C + 0))).toInt64)))]) (m' := (f, l)) rfl rfl (fl_bo rfl) rfl ?_
  refine fl_Tq.stp (pc' := 39) (lv' := [some (.inr (.inr (.inl (76, 277)))), some (.inr (.inl (s + ((f 280 (444 + 61 * C + 1)).toInt64)))), none, some (.inr (.inl (t + (((3600 : Int32) * (f 280 (444 + 61 * C + 0))).toInt64)))), none, some (.inl (Int32.ofNat C))]) (st' := []) (m' := (f, l)) rfl rfl (fl_bo rfl) rfl ?_
  refine fl_Tq.stp (pc' := 42) (lv' := [some (.inr (.inr (.inl (76, 277)))), some (.inr (.inl (s + ((f 280 (444 + 61 * C + 1)).toInt64)))), none, some (.inr (.inl (t + (((3600 : Int32) * (f 280 (444 + 61 * C + 0))).toInt64)))), none, some (.inl ((Int32.ofNat C) + (1 : Int32)))]) (st' := []) (m' := (f, l)) rfl rfl (fl_bo rfl) rfl ?_
  refine fl_Tq.stp (pc' := 7) (lv' := [some (.inr (.inr (.inl (76, 277)))), some (.inr (.inl (s + ((f 280 (444 + 61 * C + 1)).toInt64)))), none, some (.inr (.inl (t + (((3600 : Int32) * (f 280 (444 + 61 * C + 0))).toInt64)))), none, some (.inl ((Int32.ofNat C) + (1 : Int32)))]) (st' := []) (m' := (f, l)) rfl rfl (fl_bo rfl) rfl ?_
  exact k
theorem y_fu_C {L : Nat} {xs : Nat → Int32} {f : t2_F} {l : t2_L} {Q : Option fl_V → fl_M → Prop} {s t : Int64} {C : Nat} (hkk : ¬ ((Int32.ofNat C).toInt < (f 280 2).toInt)) (k : fl_Tq (pw_P L xs) 292 45 [some (.inr (.inr (.inl (76, 277)))), some (.inr (.inl s)), none, some (.inr (.inl t)), none, some (.inl (Int32.ofNat C))] [] (f, l) Q) : fl_Tq (pw_P L xs) 292 7 [some (.inr (.inr (.inl (76, 277)))), some (.inr (.inl s)), none, some (.inr (.inl t)), none, some (.inl (Int32.ofNat C))] [] (f, l) Q := by
  refine fl_Tq.stp (pc' := 9) (lv' := [some (.inr (.inr (.inl (76, 277)))), some (.inr (.inl s)), none, some (.inr (.inl t)), none, some (.inl (Int32.ofNat C))]) (st' := [.inl (Int32.ofNat C)]) (m' := (f, l)) rfl rfl (fl_bo rfl) rfl ?_
  refine fl_Tq.stp (pc' := 10) (lv' := [some (.inr (.inr (.inl (76, 277)))), some (.inr (.inl s)), none, some (.inr (.inl t)), none, some (.inl (Int32.ofNat C))]) (st' := [.inr (.inr (.inl (76, 277))), .inl (Int32.ofNat C)]) (m' := (f, l)) rfl rfl (fl_bo rfl) rfl ?_
  refine fl_Tq.stp (pc' := 13) (lv' := [some (.inr (.inr (.inl (76, 277)))), some (.inr (.inl s)), none, some (.inr (.inl t)), none, some (.inl (Int32.ofNat C))]) (st' := [.inr (.inr (.inl (79, 280))), .inl (Int32.ofNat C)]) (m' := (f, l)) rfl rfl (fl_bo rfl) rfl ?_
  refine fl_Tq.cI (c := (2 : Int32)) rfl (by decide +kernel) (fl_bo rfl) ?_
  refine fl_Tq.ldV (p := 280) (τ := 79) (n := 29780) (z := (0, 0, 0)) (k := 2) (v := f 280 2) rfl (fl_bo rfl) rfl (by decide +kernel) (by decide) rfl ?_
  refine fl_Tq.jt rfl (fl_bo rfl) (c2_ge_t hkk) rfl ?_
  exact k
theorem c0_goal_a {f : t2_F} (I : c0_I f f) : ∀ k : Nat, k ≤ (f 280 2).toInt.toNat → (c0_allCharge_a4 f k = (y_goalOf_a7 f k).1 ∧ c0_allFull_a4 f k = (y_goalOf_a7 f k).2) ∧ (360000 * (k : Int) ≤ (y_goalOf_a7 f k).2.toInt ∧ (y_goalOf_a7 f k).2.toInt ≤ 36000000 * (k : Int)) ∧ 0 ≤ (y_goalOf_a7 f k).1.toInt ∧ (y_goalOf_a7 f k).1.toInt ≤ (y_goalOf_a7 f k).2.toInt := by
  have z : (0 : Int64).toInt = 0 := rfl
  have n16 := I.rhu.1
  intro k
  induction k with
  | zero =>
    intro _
    refine ⟨⟨rfl, rfl⟩, ⟨?_, ?_⟩, ?_, ?_⟩
    · show 360000 * ((0 : Nat) : Int) ≤ (0 : Int64).toInt
      omega
    · show (0 : Int64).toInt ≤ 36000000 * ((0 : Nat) : Int)
      omega
    · show 0 ≤ (0 : Int64).toInt
      omega
    · show (0 : Int64).toInt ≤ (0 : Int64).toInt
      omega
  | succ k ih =>
    intro hk
    obtain ⟨⟨i1, i2⟩, ⟨i3, i4⟩, i5, i6⟩ := ih (by omega)
    obtain ⟨k1, k2, k3⟩ := I.ck (C := k) (by omega)
    have em := t2_36m k1
    obtain ⟨k4, k5⟩ := k1
    have s1 : (y_goalOf_a7 f (k + 1)).1 = (y_goalOf_a7 f k).1 + (f 280 (444 + 61 * k + 1)).toInt64 := rfl
    have s2 : (y_goalOf_a7 f (k + 1)).2 = (y_goalOf_a7 f k).2 + ((3600 : Int32) * (f 280 (444 + 61 * k + 0))).toInt64 := rfl
    have t1 : c0_allCharge_a4 f (k + 1) = c0_allCharge_a4 f k + (f (18 + 4 * k) 2).toInt64 := rfl
    have t2 : c0_allFull_a4 f (k + 1) = c0_allFull_a4 f k + ((f (18 + 4 * k) 0) * (3600 : Int32)).toInt64 := rfl
    have v1 : (y_goalOf_a7 f (k + 1)).1.toInt = (y_goalOf_a7 f k).1.toInt + (f 280 (444 + 61 * k + 1)).toInt := by
      rw [s1, t2_ad64 (by omega) (by rw [t2_i64]; omega), t2_i64]
    have v2 : (y_goalOf_a7 f (k + 1)).2.toInt = (y_goalOf_a7 f k).2.toInt + 3600 * (f 280 (444 + 61 * k + 0)).toInt := by
      rw [s2, t2_ad64 (by omega) (by rw [t2_i64]; omega), t2_i64, em]
    refine ⟨⟨?_, ?_⟩, ⟨?_, ?_⟩, ?_, ?_⟩
    · rw [t1, s1, i1, I.chg (by omega)]
    · rw [t2, s2, i2, I.capa (by omega), Int32.mul_comm]
    · rw [v2]; omega
    · rw [v2]; omega
    · rw [v1]; omega
    · rw [v1, v2]; omega
theorem y_goal_nz {f : t2_F} (I : c0_I f f) (h : ¬ ((f 280 2).toInt = 0)) : (y_goalOf_a7 f ((f 280 2).toInt.toNat)).2 ≠ 0 := by
  have n16 := I.rhu.1
  have := (c0_goal_a I _ (Nat.le_refl _)).2.1.1
  exact t2_nz8 (by omega)
/-! ===== fullness, on both sides ===== -/
abbrev t2_EndJ (L : Nat) (xs : Nat → Int32) (mr : Nat) (ar : List fl_V) (v : Option fl_V) (m1 : fl_M) : Prop := (∃ y : Int64, v = some (.inr (.inl y))) ∧ fl_Tq (pw_P L xs) mr 0 (fl_args (am_mxl (pw_P L xs) mr) ar) [] m1 (fun v2 m2 => v2 = v ∧ t2_Z m2)
/-- a quotient's bits, or nothing -/
noncomputable def t2_full (s a : Int64) : Int64 := if a.toInt = 0 then (0 : Int64) else (FP.ddiv (FP.l2d s) (FP.l2d a)).toInt64
theorem x_full_q {L : Nat} {xs : Nat → Int32} {f : t2_F} {l : t2_L} {Q : Option fl_V → fl_M → Prop} (I : c0_I f f) (k : Q (some (fl_j (t2_full (c0_allCharge_v f) (c0_allFull_v f)))) (f, l)) : fl_Tq (pw_P L xs) 156 0 [some (.inr (.inr (.inl (0, 0)))), none, none] [] (f, l) Q := by
  have n16 := I.rhu.1
  obtain ⟨⟨e1, e2⟩, ⟨b1, b2⟩, b3, b4⟩ := c0_goal_a I _ (Nat.le_refl _)
  have hA : c0_allFull_v f = (y_goalOf_a7 f (f 280 2).toInt.toNat).2 := by
    unfold c0_allFull_v
    rw [show (f 1 5) = f 280 2 from I.1.1.1, e2]
  have hS : c0_allCharge_v f = (y_goalOf_a7 f (f 280 2).toInt.toNat).1 := by
    unfold c0_allCharge_v
    rw [show (f 1 5) = f 280 2 from I.1.1.1, e1]
  rw [← hA] at b1 b2 b4
  rw [← hS] at b3 b4
  refine fl_Tq.stp rfl rfl (fl_bo rfl) rfl ?_
  refine fl_Tq.stp rfl rfl (fl_bo rfl) rfl ?_
  refine fl_Tq.cal rfl rfl (fl_bo rfl) rfl ?_
  refine c0_allFull_q I.hc ?_
  generalize c0_allFull_v f = A at *
  refine fl_Tq.stp rfl rfl (fl_bo rfl) rfl ?_
  refine fl_Tq.stp rfl rfl (fl_bo rfl) rfl ?_
  refine fl_Tq.stp rfl rfl (fl_bo rfl) rfl ?_
  refine fl_Tq.stp rfl rfl (fl_bo rfl) rfl ?_
  unfold t2_full at k
  by_cases h0 : A.toInt = 0
  · have hA0 : A = 0 := Int64.toInt.inj h0
    rw [if_pos h0] at k
    refine fl_Tq.zf rfl (fl_bo rfl) (by rw [hA0]; decide +kernel) rfl ?_
    refine fl_Tq.stp rfl rfl (fl_bo rfl) rfl ?_
    exact fl_Tq.ret rfl rfl rfl k
  · rw [if_neg h0] at k
    have ne : am_c1 .ne (lg_cmp A 0) = true := by
      have pos : 0 < (lg_cmp A (0 : Int64)).toInt := t2_cmp0.mpr (by omega)
      rw [at_c1]
      show (!decide ((lg_cmp A 0).toInt = 0)) = true
      rw [decide_eq_false (by omega)]
      rfl
    refine fl_Tq.zt rfl (fl_bo rfl) ne rfl ?_
    refine fl_Tq.stp rfl rfl (fl_bo rfl) rfl ?_
    refine fl_Tq.stp rfl rfl (fl_bo rfl) rfl ?_
    refine fl_Tq.cal rfl rfl (fl_bo rfl) rfl ?_
    refine c0_allCharge_q I.hc ?_
    generalize c0_allCharge_v f = S at *
    refine fl_Tq.un (w := fl_d (FP.l2d S)) rfl rfl rfl (fun _ _ _ => rfl) ?_
    refine fl_Tq.stp rfl rfl (fl_bo rfl) rfl ?_
    refine fl_Tq.un (w := fl_d (FP.l2d A)) rfl rfl rfl (fun _ _ _ => rfl) ?_
    have hx : A ≠ 0 := t2_nz8 h0
    have nn : vf_n64 (FP.ddiv (FP.l2d S) (FP.l2d A)) := fp_div64 (fp_of_int64 S).1 ((fp_of_int64 A).2 hx).1 ((fp_of_int64 A).2 hx).2
    refine fl_Tq.bi (u := fl_d (FP.ddiv (FP.l2d S) (FP.l2d A))) rfl rfl rfl (fl_dbin (fun _ _ _ => rfl) nn) ?_
    refine fl_Tq.cal rfl rfl (fl_bo rfl) rfl ?_
    rcases ff_quo (s := S) (a := A) (S := S.toInt.toNat) (A := A.toInt.toNat) (by omega) (by omega) (by omega) (by omega) (by omega) with ⟨-, e⟩ | ⟨E, T, g1, g2, g3, e⟩
    · rw [e] at k ⊢
      refine ff_181z ?_
      exact fl_Tq.ret rfl rfl rfl k
    · rw [e] at k ⊢
      refine ff_181 g1 g2 g3 ?_
      exact fl_Tq.ret rfl rfl rfl k
theorem y_full_q {L : Nat} {xs : Nat → Int32} {f : t2_F} {l : t2_L} {Q : Option fl_V → fl_M → Prop} (I : c0_I f f) (k : Q (some (fl_j (t2_full (c0_allCharge_v f) (c0_allFull_v f)))) (f, l)) : fl_Tq (pw_P L xs) 292 0 [some (.inr (.inr (.inl (76, 277)))), none, none, none, none, none] [] (f, l) Q := by
  have n16 := I.rhu.1
  obtain ⟨⟨e1, e2⟩, ⟨b1, b2⟩, b3, b4⟩ := c0_goal_a I _ (Nat.le_refl _)
  have hA : c0_allFull_v f = (y_goalOf_a7 f (f 280 2).toInt.toNat).2 := by
    unfold c0_allFull_v
    rw [show (f 1 5) = f 280 2 from I.1.1.1, e2]
  have hS : c0_allCharge_v f = (y_goalOf_a7 f (f 280 2).toInt.toNat).1 := by
    unfold c0_allCharge_v
    rw [show (f 1 5) = f 280 2 from I.1.1.1, e1]
  rw [hA, hS] at k
  refine y_fu_A ?_
  refine t2_for (n := (f 280 2).toInt.toNat) (S := fun j => fl_Tq (pw_P L xs) 292 7 [some (.inr (.inr (.inl (76, 277)))), some (.inr (.inl (y_goalOf_a7 f j).1)), none, some (.inr (.inl (y_goalOf_a7 f j).2)), none, some (.inl (Int32.ofNat j))] [] (f, l) Q) (fun j hj hS => ?_) ?_
  · have ej : (Int32.ofNat j).toInt = j := at_ofN (by omega)
    refine y_fu_B (by omega) (by rw [ej]; omega) ?_
    rw [t2_k1]
    exact hS
  · have ej : (Int32.ofNat (f 280 2).toInt.toNat).toInt = ((f 280 2).toInt.toNat : Nat) := at_ofN (by omega)
    refine y_fu_C (by rw [ej]; omega) ?_
    generalize (y_goalOf_a7 f (f 280 2).toInt.toNat).1 = S at *
    generalize (y_goalOf_a7 f (f 280 2).toInt.toNat).2 = A at *
    refine fl_Tq.stp rfl rfl (fl_bo rfl) rfl ?_
    refine fl_Tq.stp rfl rfl (fl_bo rfl) rfl ?_
    refine fl_Tq.stp rfl rfl (fl_bo rfl) rfl ?_
    unfold t2_full at k
    by_cases h0 : A.toInt = 0
    · have hA0 : A = 0 := Int64.toInt.inj h0
      rw [if_pos h0] at k
      refine fl_Tq.zf rfl (fl_bo rfl) (by rw [hA0]; decide +kernel) rfl ?_
      refine fl_Tq.stp rfl rfl (fl_bo rfl) rfl ?_
      refine fl_Tq.stp rfl rfl (fl_bo rfl) rfl ?_
      exact fl_Tq.ret rfl rfl rfl k
    · rw [if_neg h0] at k
      have ne : am_c1 .ne (lg_cmp A 0) = true := by
        have pos : 0 < (lg_cmp A (0 : Int64)).toInt := t2_cmp0.mpr (by omega)
        rw [at_c1]
        show (!decide ((lg_cmp A 0).toInt = 0)) = true
        rw [decide_eq_false (by omega)]
        rfl
      refine fl_Tq.zt rfl (fl_bo rfl) ne rfl ?_
      refine fl_Tq.stp rfl rfl (fl_bo rfl) rfl ?_
      refine fl_Tq.un (w := fl_d (FP.l2d S)) rfl rfl rfl (fun _ _ _ => rfl) ?_
      refine fl_Tq.stp rfl rfl (fl_bo rfl) rfl ?_
      refine fl_Tq.un (w := fl_d (FP.l2d A)) rfl rfl rfl (fun _ _ _ => rfl) ?_
      have hx : A ≠ 0 := t2_nz8 h0
      have nn : vf_n64 (FP.ddiv (FP.l2d S) (FP.l2d A)) := fp_div64 (fp_of_int64 S).1 ((fp_of_int64 A).2 hx).1 ((fp_of_int64 A).2 hx).2
      refine fl_Tq.bi (u := fl_d (FP.ddiv (FP.l2d S) (FP.l2d A))) rfl rfl rfl (fl_dbin (fun _ _ _ => rfl) nn) ?_
      refine fl_Tq.cal rfl rfl (fl_bo rfl) rfl ?_
      rcases ff_quo (s := S) (a := A) (S := S.toInt.toNat) (A := A.toInt.toNat) (by omega) (by omega) (by omega) (by omega) (by omega) with ⟨-, e⟩ | ⟨E, T, g1, g2, g3, e⟩
      · rw [e] at k ⊢
        refine ff_327 (by decide +kernel) ?_
        exact fl_Tq.ret rfl rfl rfl k
      · rw [e] at k ⊢
        refine ff_327 (ff_self (by omega) g2 g3) ?_
        exact fl_Tq.ret rfl rfl rfl k
theorem t2_cmp_55 {L : Nat} {xs : Nat → Int32} {f : t2_F} {l : t2_L} (_hall : ∀ c ∈ at_CM ++ at_CA, at_Valid at_XI (pw_P L xs) c) (hg : t2_Z (f, l)) : fl_Tq (pw_P L xs) 156 0 (fl_args (am_mxl (pw_P L xs) 156) [lx_x]) [] (f, l) (t2_EndJ L xs 292 [at_this]) := by
  have I : c0_I f f := hg.2.1
  show fl_Tq (pw_P L xs) 156 0 [some (.inr (.inr (.inl (0, 0)))), none, none] [] (f, l) _
  refine x_full_q I ⟨⟨_, rfl⟩, ?_⟩
  show fl_Tq (pw_P L xs) 292 0 [some (.inr (.inr (.inl (76, 277)))), none, none, none, none, none] [] (f, l) _
  exact y_full_q I ⟨rfl, hg⟩

end

/-! 95.05.32p56.lean.txt -/
section
theorem x_off_A {L : Nat} {xs : Nat → Int32} {f : t2_F} {l : t2_L} {Q : Option fl_V → fl_M → Prop}   (k : ((f 1 5).toInt = 0) → Q (some (.inl (0 : Int32))) (f, l)) (k1 : (¬ ((f 1 5).toInt = 0)) → fl_Tq (pw_P L xs) 157 16 [some (.inr (.inr (.inl (0, 0)))), some (.inl (0 : Int32)), some (.inl (0 : Int32))] [] (f, l) Q) : fl_Tq (pw_P L xs) 157 0 [some (.inr (.inr (.inl (0, 0)))), none, none] [] (f, l) Q := by
  refine fl_Tq.stp (pc' := 1) (lv' := [some (.inr (.inr (.inl (0, 0)))), none, none]) (st' := [.inr (.inr (.inl (0, 0)))]) (m' := (f, l)) rfl rfl (fl_bo rfl) rfl ?_
  refine fl_Tq.stp (pc' := 4) (lv' := [some (.inr (.inr (.inl (0, 0)))), none, none]) (st' := [.inr (.inr (.inl (1, 1)))]) (m' := (f, l)) rfl rfl (fl_bo rfl) rfl ?_
  refine fl_Tq.gfV (k := 5) (v := f 1 5) rfl (fl_bo rfl) rfl rfl ?_
  by_cases h1 : (f 1 5).toInt = 0
  · refine fl_Tq.zf rfl (fl_bo rfl) (c1_ne_f h1) rfl ?_
    refine fl_Tq.cI (c := (0 : Int32)) rfl (by decide +kernel) (fl_bo rfl) ?_
    exact fl_Tq.ret rfl rfl rfl (k h1)
  · refine fl_Tq.zt rfl (fl_bo rfl) (c1_ne_t h1) rfl ?_
    refine fl_Tq.cI (c := (0 : Int32)) rfl (by decide +kernel) (fl_bo rfl) ?_
    refine fl_Tq.stp (pc' := 14) (lv' := [some (.inr (.inr (.inl (0, 0)))), some (.inl (0 : Int32)), none]) (st' := []) (m' := (f, l)) rfl rfl (fl_bo rfl) rfl ?_
    refine fl_Tq.cI (c := (0 : Int32)) rfl (by decide +kernel) (fl_bo rfl) ?_
    refine fl_Tq.stp (pc' := 16) (lv' := [some (.inr (.inr (.inl (0, 0)))), some (.inl (0 : Int32)), some (.inl (0 : Int32))]) (st' := []) (m' := (f, l)) rfl rfl (fl_bo rfl) rfl ?_
    exact k1 h1
theorem x_off_B {L : Nat} {xs : Nat → Int32} {f : t2_F} {l : t2_L} {Q : Option fl_V → fl_M → Prop} {s : Int32} {C : Nat} (hC : C < 16) (hkk : (Int32.ofNat C).toInt < (f 1 5).toInt) (k : fl_Tq (pw_P L xs) 157 16 [some (.inr (.inr (.inl (0, 0)))), some (.inl (s + (t2_abs_v ((c0_reckonedPart_v f C) - (f (18 + 4 * C) 3))))), some (.inl ((Int32.ofNat C) + (1 : Int32)))] [] (f, l) Q) : fl_Tq (pw_P L xs) 157 16 [some (.inr (.inr (.inl (0, 0)))), some (.inl s), some (.inl (Int32.ofNat C))] [] (f, l) Q := by
  refine fl_Tq.stp (pc' := 17) (lv' := [some (.inr (.inr (.inl (0, 0)))), some (.inl s), some (.inl (Int32.ofNat C))]) (st' := [.inl (Int32.ofNat C)]) (m' := (f, l)) rfl rfl (fl_bo rfl) rfl ?_
  refine fl_Tq.stp (pc' := 18) (lv' := [some (.inr (.inr (.inl (0, 0)))), some (.inl s), some (.inl (Int32.ofNat C))]) (st' := [.inr (.inr (.inl (0, 0))), .inl (Int32.ofNat C)]) (m' := (f, l)) rfl rfl (fl_bo rfl) rfl ?_
  refine fl_Tq.stp (pc' := 21) (lv' := [some (.inr (.inr (.inl (0, 0)))), some (.inl s), some (.inl (Int32.ofNat C))]) (st' := [.inr (.inr (.inl (1, 1))), .inl (Int32.ofNat C)]) (m' := (f, l)) rfl rfl (fl_bo rfl) rfl ?_
  refine fl_Tq.gfV (k := 5) (v := f 1 5) rfl (fl_bo rfl) rfl rfl ?_
  refine fl_Tq.jf rfl (fl_bo rfl) (c2_ge_f hkk) rfl ?_
  refine fl_Tq.stp (pc' := 28) (lv' := [some (.inr (.inr (.inl (0, 0)))), some (.inl s), some (.inl (Int32.ofNat C))]) (st' := [.inl s]) (m' := (f, l)) rfl rfl (fl_bo rfl) rfl ?_
  refine fl_Tq.stp (pc' := 29) (lv' := [some (.inr (.inr (.inl (0, 0)))), some (.inl s), some (.inl (Int32.ofNat C))]) (st' := [.inr (.inr (.inl (0, 0))), .inl s]) (m' := (f, l)) rfl rfl (fl_bo rfl) rfl ?_
  refine fl_Tq.stp (pc' := 32) (lv' := [some (.inr (.inr (.inl (0, 0)))), some (.inl s), some (.inl (Int32.ofNat C))]) (st' := [.inr (.inr (.inl (1, 1))), .inl s]) (m' := (f, l)) rfl rfl (fl_bo rfl) rfl ?_
  refine fl_Tq.stp (pc' := 35) (lv' := [some (.inr (.inr (.inl (0, 0)))), some (.inl s), some (.inl (Int32.ofNat C))]) (st' := [.inr (.inr (.inl (2, 2))), .inl s]) (m' := (f, l)) rfl rfl (fl_bo rfl) rfl ?_
  refine fl_Tq.stp (pc' := 36) (lv' := [some (.inr (.inr (.inl (0, 0)))), some (.inl s), some (.inl (Int32.ofNat C))]) (st' := [.inl (Int32.ofNat C), .inr (.inr (.inl (2, 2))), .inl s]) (m' := (f, l)) rfl rfl (fl_bo rfl) rfl ?_
  refine fl_Tq.qld (p := 2) (τ := 2) (n := 16) (t := 18) (b := 16) (d := 3) (k := C) rfl (fl_bo rfl) rfl (at_ofN (by omega)) (by omega) ?_
  show fl_Tq _ 157 37 [some (.inr (.inr (.inl (0, 0)))), some (.inl s), some (.inl (Int32.ofNat C))] [.inr (.inr (.inl (18, 18 + 4 * C))), .inl s] (f, l) _
  refine fl_Tq.cal rfl rfl (fl_oks_ok ⟨(t2_kc0 (by omega)), True.intro, True.intro⟩) rfl ?_
  refine c0_reckonedPart_q (by omega) ?_
  show fl_Tq _ 157 40 [some (.inr (.inr (.inl (0, 0)))), some (.inl s), some (.inl (Int32.ofNat C))] [.inl (c0_reckonedPart_v f C), .inl s] (f, l) _
  refine fl_Tq.stp (pc' := 41) (lv' := [some (.inr (.inr (.inl (0, 0)))), some (.inl s), some (.inl (Int32.ofNat C))]) (st' := [.inr (.inr (.inl (0, 0))), .inl (c0_reckonedPart_v f C), .inl s]) (m' := (f, l)) rfl rfl (fl_bo rfl) rfl ?_
  refine fl_Tq.stp (pc' := 44) (lv' := [some (.inr (.inr (.inl (0, 0)))), some (.inl s), some (.inl (Int32.ofNat C))]) (st' := [.inr (.inr (.inl (1, 1))), .inl (c0_reckonedPart_v f C), .inl s]) (m' := (f, l)) rfl rfl (fl_bo rfl) rfl ?_
  refine fl_Tq.stp (pc' := 47) (lv' := [some (.inr (.inr (.inl (0, 0)))), some (.inl s), some (.inl (Int32.ofNat C))]) (st' := [.inr (.inr (.inl (2, 2))), .inl (c0_reckonedPart_v f C), .inl s]) (m' := (f, l)) rfl rfl (fl_bo rfl) rfl ?_
  refine fl_Tq.stp (pc' := 48) (lv' := [some (.inr (.inr (.inl (0, 0)))), some (.inl s), some (.inl (Int32.ofNat C))]) (st' := [.inl (Int32.ofNat C), .inr (.inr (.inl (2, 2))), .inl (c0_reckonedPart_v f C), .inl s]) (m' := (f, l)) rfl rfl (fl_bo rfl) rfl ?_
  refine fl_Tq.qld (p := 2) (τ := 2) (n := 16) (t := 18) (b := 16) (d := 3) (k := C) rfl (fl_bo rfl) rfl (at_ofN (by omega)) (by omega) ?_
  show fl_Tq _ 157 49 [some (.inr (.inr (.inl (0, 0)))), some (.inl s), some (.inl (Int32.ofNat C))] [.inr (.inr (.inl (18, 18 + 4 * C))), .inl (c0_reckonedPart_v f C), .inl s] (f, l) _
  refine fl_Tq.gfV (k := 3) (v := f (18 + 4 * C) 3) rfl (fl_oks_ok ⟨(t2_kc0 (by omega)), True.intro, True.intro, True.intro⟩) rfl rfl ?_
  refine fl_Tq.stp (pc' := 53) (lv' := [some (.inr (.inr (.inl (0, 0)))), some (.inl s), some (.inl (Int32.ofNat C))]) (st' := [.inl ((c0_reckonedPart_v f C) - (f (18 + 4 * C) 3)), .inl s]) (m' := (f, l)) rfl rfl (fl_bo rfl) rfl ?_
  refine fl_Tq.cal rfl rfl (fl_bo rfl) rfl ?_
  refine t2_abs_q  ?_
  show fl_Tq _ 157 56 [some (.inr (.inr (.inl (0, 0)))), some (.inl s), some (.inl (Int32.ofNat C))] [.inl (t2_abs_v ((c0_reckonedPart_v f C) - (f (18 + 4 * C) 3))), .inl s] (f, l) _
  refine fl_Tq.stp (pc' := 57) (lv' := [some (.inr (.inr (.inl (0, 0)))), some (.inl s), some (.inl (Int32.ofNat C))]) (st' := [.inl (s + (t2_abs_v ((c0_reckonedPart_v f C) - (f (18 + 4 * C) 3))))]) (m' := (f, l)) rfl rfl (fl_bo rfl) rfl ?_
  refine fl_Tq.stp (pc' := 58) (lv' := [some (.inr (.inr (.inl (0, 0)))), some (.inl (s + (t2_abs_v ((c0_reckonedPart_v f C) - (f (18 + 4 * C) 3))))), some (.inl (Int32.ofNat C))]) (st' := []) (m' := (f, l)) rfl rfl (fl_bo rfl) rfl ?_
  refine fl_Tq.stp (pc' := 61) (lv' := [some (.inr (.inr (.inl (0, 0)))), some (.inl (s + (t2_abs_v ((c0_reckonedPart_v f C) - (f (18 + 4 * C) 3))))), some (.inl ((Int32.ofNat C) + (1 : Int32)))]) (st' := []) (m' := (f, l)) rfl rfl (fl_bo rfl) rfl ?_
  refine fl_Tq.stp (pc' := 16) (lv' := [some (.inr (.inr (.inl (0, 0)))), some (.inl (s + (t2_abs_v ((c0_reckonedPart_v f C) - (f (18 + 4 * C) 3))))), some (.inl ((Int32.ofNat C) + (1 : Int32)))]) (st' := []) (m' := (f, l)) rfl rfl (fl_bo rfl) rfl ?_
  exact k
theorem x_off_C {L : Nat} {xs : Nat → Int32} {f : t2_F} {l : t2_L} {Q : Option fl_V → fl_M → Prop} {s : Int32} {C : Nat} (hkk : ¬ ((Int32.ofNat C).toInt < (f 1 5).toInt)) (k : fl_Tq (pw_P L xs) 157 64 [some (.inr (.inr (.inl (0, 0)))), some (.inl s), some (.inl (Int32.ofNat C))] [] (f, l) Q) : fl_Tq (pw_P L xs) 157 16 [some (.inr (.inr (.inl (0, 0)))), some (.inl s), some (.inl (Int32.ofNat C))] [] (f, l) Q := by
  refine fl_Tq.stp (pc' := 17) (lv' := [some (.inr (.inr (.inl (0, 0)))), some (.inl s), some (.inl (Int32.ofNat C))]) (st' := [.inl (Int32.ofNat C)]) (m' := (f, l)) rfl rfl (fl_bo rfl) rfl ?_
  refine fl_Tq.stp (pc' := 18) (lv' := [some (.inr (.inr (.inl (0, 0)))), some (.inl s), some (.inl (Int32.ofNat C))]) (st' := [.inr (.inr (.inl (0, 0))), .inl (Int32.ofNat C)]) (m' := (f, l)) rfl rfl (fl_bo rfl) rfl ?_
  refine fl_Tq.stp (pc' := 21) (lv' := [some (.inr (.inr (.inl (0, 0)))), some (.inl s), some (.inl (Int32.ofNat C))]) (st' := [.inr (.inr (.inl (1, 1))), .inl (Int32.ofNat C)]) (m' := (f, l)) rfl rfl (fl_bo rfl) rfl ?_
  refine fl_Tq.gfV (k := 5) (v := f 1 5) rfl (fl_bo rfl) rfl rfl ?_
  refine fl_Tq.jt rfl (fl_bo rfl) (c2_ge_t hkk) rfl ?_
  exact k
theorem y_off_A {L : Nat} {xs : Nat → Int32} {f : t2_F} {l : t2_L} {Q : Option fl_V → fl_M → Prop}   (k : fl_Tq (pw_P L xs) 293 4 [some (.inr (.inr (.inl (76, 277)))), some (.inl (0 : Int32)), some (.inl (0 : Int32))] [] (f, l) Q) : fl_Tq (pw_P L xs) 293 0 [some (.inr (.inr (.inl (76, 277)))), none, none] [] (f, l) Q := by
  refine fl_Tq.cI (c := (0 : Int32)) rfl (by decide +kernel) (fl_bo rfl) ?_
  refine fl_Tq.stp (pc' := 2) (lv' := [some (.inr (.inr (.inl (76, 277)))), some (.inl (0 : Int32)), none]) (st' := []) (m' := (f, l)) rfl rfl (fl_bo rfl) rfl ?_
  refine fl_Tq.cI (c := (0 : Int32)) rfl (by decide +kernel) (fl_bo rfl) ?_
  refine fl_Tq.stp (pc' := 4) (lv' := [some (.inr (.inr (.inl (76, 277)))), some (.inl (0 : Int32)), some (.inl (0 : Int32))]) (st' := []) (m' := (f, l)) rfl rfl (fl_bo rfl) rfl ?_
  exact k
theorem y_off_B {L : Nat} {xs : Nat → Int32} {f : t2_F} {l : t2_L} {Q : Option fl_V → fl_M → Prop} {s : Int32} {C : Nat} (hC : C < 16) (hCn : (C : Int) < (f 280 2).toInt) (hkk : (Int32.ofNat C).toInt < (f 280 2).toInt) (hk : ∀ C : Nat, (C : Int) < (f 280 2).toInt → t2_ck f C) (k : fl_Tq (pw_P L xs) 293 4 [some (.inr (.inr (.inl (76, 277)))), some (.inl (s + (r_size_v (((((1000 : Int64) * ((f 280 (444 + 61 * C + 4)).toInt64)) / (((3600 : Int32) * (f 280 (444 + 61 * C + 0))).toInt64)).toInt32) - (r_partOf_v f (Int32.ofNat C) C))))), some (.inl ((Int32.ofNat C) + (1 : Int32)))] [] (f, l) Q) : fl_Tq (pw_P L xs) 293 4 [some (.inr (.inr (.inl (76, 277)))), some (.inl s), some (.inl (Int32.ofNat C))] [] (f, l) Q := by
  refine fl_Tq.stp (pc' := 5) (lv' := [some (.inr (.inr (.inl (76, 277)))), some (.inl s), some (.inl (Int32.ofNat C))]) (st' := [.inl (Int32.ofNat C)]) (m' := (f, l)) rfl rfl (fl_bo rfl) rfl ?_
  refine fl_Tq.stp (pc' := 6) (lv' := [some (.inr (.inr (.inl (76, 277)))), some (.inl s), some (.inl (Int32.ofNat C))]) (st' := [.inr (.inr (.inl (76, 277))), .inl (Int32.ofNat C)]) (m' := (f, l)) rfl rfl (fl_bo rfl) rfl ?_
  refine fl_Tq.stp (pc' := 9) (lv' := [some (.inr (.inr (.inl (76, 277)))), some (.inl s), some (.inl (Int32.ofNat C))]) (st' := [.inr (.inr (.inl (79, 280))), .inl (Int32.ofNat C)]) (m' := (f, l)) rfl rfl (fl_bo rfl) rfl ?_
  refine fl_Tq.cI (c := (2 : Int32)) rfl (by decide +kernel) (fl_bo rfl) ?_
  refine fl_Tq.ldV (p := 280) (τ := 79) (n := 29780) (z := (0, 0, 0)) (k := 2) (v := f 280 2) rfl (fl_bo rfl) rfl (by decide +kernel) (by decide) rfl ?_
  refine fl_Tq.jf rfl (fl_bo rfl) (c2_ge_f hkk) rfl ?_
  refine fl_Tq.stp (pc' := 15) (lv' := [some (.inr (.inr (.inl (76, 277)))), some (.inl s), some (.inl (Int32.ofNat C))]) (st' := [.inl s]) (m' := (f, l)) rfl rfl (fl_bo rfl) rfl ?_
  refine fl_Tq.stp (pc' := 16) (lv' := [some (.inr (.inr (.inl (76, 277)))), some (.inl s), some (.inl (Int32.ofNat C))]) (st' := [.inr (.inr (.inl (76, 277))), .inl s]) (m' := (f, l)) rfl rfl (fl_bo rfl) rfl ?_
  refine fl_Tq.stp (pc' := 17) (lv' := [some (.inr (.inr (.inl (76, 277)))), some (.inl s), some (.inl (Int32.ofNat C))]) (st' := [.inl (Int32.ofNat C), .inr (.inr (.inl (76, 277))), .inl s]) (m' := (f, l)) rfl rfl (fl_bo rfl) rfl ?_
  refine fl_Tq.stp (pc' := 18) (lv' := [some (.inr (.inr (.inl (76, 277)))), some (.inl s), some (.inl (Int32.ofNat C))]) (st' := [.inr (.inr (.inl (76, 277))), .inl (Int32.ofNat C), .inr (.inr (.inl (76, 277))), .inl s]) (m' := (f, l)) rfl rfl (fl_bo rfl) rfl ?_
  refine fl_Tq.stp (pc' := 19) (lv' := [some (.inr (.inr (.inl (76, 277)))), some (.inl s), some (.inl (Int32.ofNat C))]) (st' := [.inl (Int32.ofNat C), .inr (.inr (.inl (76, 277))), .inl (Int32.ofNat C), .inr (.inr (.inl (76, 277))), .inl s]) (m' := (f, l)) rfl rfl (fl_bo rfl) rfl ?_
  refine fl_Tq.cI (c := (4 : Int32)) rfl (by decide +kernel) (fl_bo rfl) ?_
  refine fl_Tq.cal rfl rfl (fl_bo rfl) rfl ?_
  refine t2_get (C := C) (W := 4) (v := f 280 (444 + 61 * C + 4)) (at_ofN (by omega)) (by decide +kernel) (by omega) (by decide) rfl ?_
  show fl_Tq _ 293 23 [some (.inr (.inr (.inl (76, 277)))), some (.inl s), some (.inl (Int32.ofNat C))] [.inl (f 280 (444 + 61 * C + 4)), .inl (Int32.ofNat C), .inr (.inr (.inl (76, 277))), .inl s] (f, l) _
  refine fl_Tq.cal rfl rfl (fl_bo rfl) rfl ?_
  refine fl_Tq.stp (pc' := 3) (lv' := [some (.inr (.inr (.inl (76, 277)))), some (.inl (Int32.ofNat C)), some (.inl (f 280 (444 + 61 * C + 4)))]) (st' := [.inr (.inl (1000 : Int64))]) (m' := (f, l)) rfl rfl (fl_bo rfl) rfl ?_
  refine fl_Tq.stp (pc' := 4) (lv' := [some (.inr (.inr (.inl (76, 277)))), some (.inl (Int32.ofNat C)), some (.inl (f 280 (444 + 61 * C + 4)))]) (st' := [.inl (f 280 (444 + 61 * C + 4)), .inr (.inl (1000 : Int64))]) (m' := (f, l)) rfl rfl (fl_bo rfl) rfl ?_
  refine fl_Tq.stp (pc' := 5) (lv' := [some (.inr (.inr (.inl (76, 277)))), some (.inl (Int32.ofNat C)), some (.inl (f 280 (444 + 61 * C + 4)))]) (st' := [.inr (.inl ((f 280 (444 + 61 * C + 4)).toInt64)), .inr (.inl (1000 : Int64))]) (m' := (f, l)) rfl rfl (fl_bo rfl) rfl ?_
  refine fl_Tq.stp (pc' := 6) (lv' := [some (.inr (.inr (.inl (76, 277)))), some (.inl (Int32.ofNat C)), some (.inl (f 280 (444 + 61 * C + 4)))]) (st' := [.inr (.inl ((1000 : Int64) * ((f 280 (444 + 61 * C + 4)).toInt64)))]) (m' := (f, l)) rfl rfl (fl_bo rfl) rfl ?_
  refine fl_Tq.stp (pc' := 7) (lv' := [some (.inr (.inr (.inl (76, 277)))), some (.inl (Int32.ofNat C)), some (.inl (f 280 (444 + 61 * C + 4)))]) (st' := [.inr (.inr (.inl (76, 277))), .inr (.inl ((1000 : Int64) * ((f 280 (444 + 61 * C + 4)).toInt64)))]) (m' := (f, l)) rfl rfl (fl_bo rfl) rfl ?_
  refine fl_Tq.stp (pc' := 8) (lv' := [some (.inr (.inr (.inl (76, 277)))), some (.inl (Int32.ofNat C)), some (.inl (f 280 (444 + 61 * C + 4)))]) (st' := [.inl (Int32.ofNat C), .inr (.inr (.inl (76, 277))), .inr (.inl ((1000 : Int64) * ((f 280 (444 + 61 * C + 4)).toInt64)))]) (m' := (f, l)) rfl rfl (fl_bo rfl) rfl ?_
  refine fl_Tq.cal rfl rfl (fl_bo rfl) rfl ?_
  refine fl_Tq.cS (c := (3600 : Int32)) rfl (by decide +kernel) (fl_bo rfl) ?_
  refine fl_Tq.stp (pc' := 4) (lv' := [some (.inr (.inr (.inl (76, 277)))), some (.inl (Int32.ofNat C))]) (st' := [.inr (.inr (.inl (76, 277))), .inl (3600 : Int32)]) (m' := (f, l)) rfl rfl (fl_bo rfl) rfl ?_
  refine fl_Tq.stp (pc' := 5) (lv' := [some (.inr (.inr (.inl (76, 277)))), some (.inl (Int32.ofNat C))]) (st' := [.inl (Int32.ofNat C), .inr (.inr (.inl (76, 277))), .inl (3600 : Int32)]) (m' := (f, l)) rfl rfl (fl_bo rfl) rfl ?_
  refine fl_Tq.cI (c := (0 : Int32)) rfl (by decide +kernel) (fl_bo rfl) ?_
  refine fl_Tq.cal rfl rfl (fl_bo rfl) rfl ?_
  refine t2_get (C := C) (W := 0) (v := f 280 (444 + 61 * C + 0)) (at_ofN (by omega)) (by decide +kernel) (by omega) (by decide) rfl ?_
  show fl_Tq _ 195 9 [some (.inr (.inr (.inl (76, 277)))), some (.inl (Int32.ofNat C))] [.inl (f 280 (444 + 61 * C + 0)), .inl (3600 : Int32)] (f, l) _
  refine fl_Tq.stp (pc' := 10) (lv' := [some (.inr (.inr (.inl (76, 277)))), some (.inl (Int32.ofNat C))]) (st' := [.inl ((3600 : Int32) * (f 280 (444 + 61 * C + 0)))]) (m' := (f, l)) rfl rfl (fl_bo rfl) rfl ?_
  refine fl_Tq.ret rfl rfl rfl ?_
  show fl_Tq _ 196 11 [some (.inr (.inr (.inl (76, 277)))), some (.inl (Int32.ofNat C)), some (.inl (f 280 (444 + 61 * C + 4)))] [.inl ((3600 : Int32) * (f 280 (444 + 61 * C + 0))), .inr (.inl ((1000 : Int64) * ((f 280 (444 + 61 * C + 4)).toInt64)))] (f, l) _
  refine fl_Tq.stp (pc' := 12) (lv' := [some (.inr (.inr (.inl (76, 277)))), some (.inl (Int32.ofNat C)), some (.inl (f 280 (444 + 61 * C + 4)))]) (st' := [.inr (.inl (((3600 : Int32) * (f 280 (444 + 61 * C + 0))).toInt64)), .inr (.inl ((1000 : Int64) * ((f 280 (444 + 61 * C + 4)).toInt64)))]) (m' := (f, l)) rfl rfl (fl_bo rfl) rfl ?_
  refine fl_Tq.dvJ rfl (fl_bo rfl) (t2_nzf (hk C hCn).1) ?_
  refine fl_Tq.stp (pc' := 14) (lv' := [some (.inr (.inr (.inl (76, 277)))), some (.inl (Int32.ofNat C)), some (.inl (f 280 (444 + 61 * C + 4)))]) (st' := [.inl ((((1000 : Int64) * ((f 280 (444 + 61 * C + 4)).toInt64)) / (((3600 : Int32) * (f 280 (444 + 61 * C + 0))).toInt64)).toInt32)]) (m' := (f, l)) rfl rfl (fl_bo rfl) rfl ?_
  refine fl_Tq.ret rfl rfl rfl ?_
  show fl_Tq _ 293 26 [some (.inr (.inr (.inl (76, 277)))), some (.inl s), some (.inl (Int32.ofNat C))] [.inl ((((1000 : Int64) * ((f 280 (444 + 61 * C + 4)).toInt64)) / (((3600 : Int32) * (f 280 (444 + 61 * C + 0))).toInt64)).toInt32), .inl s] (f, l) _
  refine fl_Tq.stp (pc' := 27) (lv' := [some (.inr (.inr (.inl (76, 277)))), some (.inl s), some (.inl (Int32.ofNat C))]) (st' := [.inr (.inr (.inl (76, 277))), .inl ((((1000 : Int64) * ((f 280 (444 + 61 * C + 4)).toInt64)) / (((3600 : Int32) * (f 280 (444 + 61 * C + 0))).toInt64)).toInt32), .inl s]) (m' := (f, l)) rfl rfl (fl_bo rfl) rfl ?_
  refine fl_Tq.stp (pc' := 28) (lv' := [some (.inr (.inr (.inl (76, 277)))), some (.inl s), some (.inl (Int32.ofNat C))]) (st' := [.inl (Int32.ofNat C), .inr (.inr (.inl (76, 277))), .inl ((((1000 : Int64) * ((f 280 (444 + 61 * C + 4)).toInt64)) / (((3600 : Int32) * (f 280 (444 + 61 * C + 0))).toInt64)).toInt32), .inl s]) (m' := (f, l)) rfl rfl (fl_bo rfl) rfl ?_
  refine fl_Tq.cal rfl rfl (fl_bo rfl) rfl ?_
  refine r_partOf_q (at_ofN (by omega)) (by omega) (hk C hCn) ?_
  show fl_Tq _ 293 31 [some (.inr (.inr (.inl (76, 277)))), some (.inl s), some (.inl (Int32.ofNat C))] [.inl (r_partOf_v f (Int32.ofNat C) C), .inl ((((1000 : Int64) * ((f 280 (444 + 61 * C + 4)).toInt64)) / (((3600 : Int32) * (f 280 (444 + 61 * C + 0))).toInt64)).toInt32), .inl s] (f, l) _
  refine fl_Tq.stp (pc' := 32) (lv' := [some (.inr (.inr (.inl (76, 277)))), some (.inl s), some (.inl (Int32.ofNat C))]) (st' := [.inl (((((1000 : Int64) * ((f 280 (444 + 61 * C + 4)).toInt64)) / (((3600 : Int32) * (f 280 (444 + 61 * C + 0))).toInt64)).toInt32) - (r_partOf_v f (Int32.ofNat C) C)), .inl s]) (m' := (f, l)) rfl rfl (fl_bo rfl) rfl ?_
  refine fl_Tq.cal rfl rfl (fl_bo rfl) rfl ?_
  refine r_size_q  ?_
  show fl_Tq _ 293 35 [some (.inr (.inr (.inl (76, 277)))), some (.inl s), some (.inl (Int32.ofNat C))] [.inl (r_size_v (((((1000 : Int64) * ((f 280 (444 + 61 * C + 4)).toInt64)) / (((3600 : Int32) * (f 280 (444 + 61 * C + 0))).toInt64)).toInt32) - (r_partOf_v f (Int32.ofNat C) C))), .inl s] (f, l) _
  refine fl_Tq.stp (pc' := 36) (lv' := [some (.inr (.inr (.inl (76, 277)))), some (.inl s), some (.inl (Int32.ofNat C))]) (st' := [.inl (s + (r_size_v (((((1000 : Int64) * ((f 280 (444 + 61 * C + 4)).toInt64)) / (((3600 : Int32) * (f 280 (444 + 61 * C + 0))).toInt64)).toInt32) - (r_partOf_v f (Int32.ofNat C) C))))]) (m' := (f, l)) rfl rfl (fl_bo rfl) rfl ?_
  refine fl_Tq.stp (pc' := 37) (lv' := [some (.inr (.inr (.inl (76, 277)))), some (.inl (s + (r_size_v (((((1000 : Int64) * ((f 280 (444 + 61 * C + 4)).toInt64)) / (((3600 : Int32) * (f 280 (444 + 61 * C + 0))).toInt64)).toInt32) - (r_partOf_v f (Int32.ofNat C) C))))), some (.inl (Int32.ofNat C))]) (st' := []) (m' := (f, l)) rfl rfl (fl_bo rfl) rfl ?_
  refine fl_Tq.stp (pc' := 40) (lv' := [some (.inr (.inr (.inl (76, 277)))), some (.inl (s + (r_size_v (((((1000 : Int64) * ((f 280 (444 + 61 * C + 4)).toInt64)) / (((3600 : Int32) * (f 280 (444 + 61 * C + 0))).toInt64)).toInt32) - (r_partOf_v f (Int32.ofNat C) C))))), some (.inl ((Int32.ofNat C) + (1 : Int32)))]) (st' := []) (m' := (f, l)) rfl rfl (fl_bo rfl) rfl ?_
  refine fl_Tq.stp (pc' := 4) (lv' := [some (.inr (.inr (.inl (76, 277)))), some (.inl (s + (r_size_v (((((1000 : Int64) * ((f 280 (444 + 61 * C + 4)).toInt64)) / (((3600 : Int32) * (f 280 (444 + 61 * C + 0))).toInt64)).toInt32) - (r_partOf_v f (Int32.ofNat C) C))))), some (.inl ((Int32.ofNat C) + (1 : Int32)))]) (st' := []) (m' := (f, l)) rfl rfl (fl_bo rfl) rfl ?_
  exact k
theorem y_off_C {L : Nat} {xs : Nat → Int32} {f : t2_F} {l : t2_L} {Q : Option fl_V → fl_M → Prop} {s : Int32} {C : Nat} (hkk : ¬ ((Int32.ofNat C).toInt < (f 280 2).toInt)) (k : fl_Tq (pw_P L xs) 293 43 [some (.inr (.inr (.inl (76, 277)))), some (.inl s), some (.inl (Int32.ofNat C))] [] (f, l) Q) : fl_Tq (pw_P L xs) 293 4 [some (.inr (.inr (.inl (76, 277)))), some (.inl s), some (.inl (Int32.ofNat C))] [] (f, l) Q := by
  refine fl_Tq.stp (pc' := 5) (lv' := [some (.inr (.inr (.inl (76, 277)))), some (.inl s), some (.inl (Int32.ofNat C))]) (st' := [.inl (Int32.ofNat C)]) (m' := (f, l)) rfl rfl (fl_bo rfl) rfl ?_
  refine fl_Tq.stp (pc' := 6) (lv' := [some (.inr (.inr (.inl (76, 277)))), some (.inl s), some (.inl (Int32.ofNat C))]) (st' := [.inr (.inr (.inl (76, 277))), .inl (Int32.ofNat C)]) (m' := (f, l)) rfl rfl (fl_bo rfl) rfl ?_
  refine fl_Tq.stp (pc' := 9) (lv' := [some (.inr (.inr (.inl (76, 277)))), some (.inl s), some (.inl (Int32.ofNat C))]) (st' := [.inr (.inr (.inl (79, 280))), .inl (Int32.ofNat C)]) (m' := (f, l)) rfl rfl (fl_bo rfl) rfl ?_
  refine fl_Tq.cI (c := (2 : Int32)) rfl (by decide +kernel) (fl_bo rfl) ?_
  refine fl_Tq.ldV (p := 280) (τ := 79) (n := 29780) (z := (0, 0, 0)) (k := 2) (v := f 280 2) rfl (fl_bo rfl) rfl (by decide +kernel) (by decide) rfl ?_
  refine fl_Tq.jt rfl (fl_bo rfl) (c2_ge_t hkk) rfl ?_
  exact k
theorem y_off_D {L : Nat} {xs : Nat → Int32} {f : t2_F} {l : t2_L} {Q : Option fl_V → fl_M → Prop} {s : Int32} {C : Nat}  (k : ((f 280 2).toInt = 0) → Q (some (.inl (0 : Int32))) (f, l)) (k1 : (¬ ((f 280 2).toInt = 0)) → fl_Tq (pw_P L xs) 293 56 [some (.inr (.inr (.inl (76, 277)))), some (.inl s), some (.inl (Int32.ofNat C))] [] (f, l) Q) : fl_Tq (pw_P L xs) 293 43 [some (.inr (.inr (.inl (76, 277)))), some (.inl s), some (.inl (Int32.ofNat C))] [] (f, l) Q := by
  refine fl_Tq.stp (pc' := 44) (lv' := [some (.inr (.inr (.inl (76, 277)))), some (.inl s), some (.inl (Int32.ofNat C))]) (st' := [.inr (.inr (.inl (76, 277)))]) (m' := (f, l)) rfl rfl (fl_bo rfl) rfl ?_
  refine fl_Tq.stp (pc' := 47) (lv' := [some (.inr (.inr (.inl (76, 277)))), some (.inl s), some (.inl (Int32.ofNat C))]) (st' := [.inr (.inr (.inl (79, 280)))]) (m' := (f, l)) rfl rfl (fl_bo rfl) rfl ?_
  refine fl_Tq.cI (c := (2 : Int32)) rfl (by decide +kernel) (fl_bo rfl) ?_
  refine fl_Tq.ldV (p := 280) (τ := 79) (n := 29780) (z := (0, 0, 0)) (k := 2) (v := f 280 2) rfl (fl_bo rfl) rfl (by decide +kernel) (by decide) rfl ?_
  by_cases h1 : (f 280 2).toInt = 0
  · refine fl_Tq.zf rfl (fl_bo rfl) (c1_ne_f h1) rfl ?_
    refine fl_Tq.cI (c := (0 : Int32)) rfl (by decide +kernel) (fl_bo rfl) ?_
    refine fl_Tq.stp (pc' := 69) (lv' := [some (.inr (.inr (.inl (76, 277)))), some (.inl s), some (.inl (Int32.ofNat C))]) (st' := [.inl (0 : Int32)]) (m' := (f, l)) rfl rfl (fl_bo rfl) rfl ?_
    exact fl_Tq.ret rfl rfl rfl (k h1)
  · refine fl_Tq.zt rfl (fl_bo rfl) (c1_ne_t h1) rfl ?_
    exact k1 h1
/-! ===== off, on both sides ===== -/
noncomputable def t2_offA (f : t2_F) : Nat → Int32
  | 0 => (0 : Int32)
  | k + 1 => t2_offA f k + t2_abs_v ((c0_reckonedPart_v f k) - (f (18 + 4 * k) 3))
noncomputable def t2_offV (f : t2_F) : Int32 := if (f 280 2).toInt = 0 then (0 : Int32) else (FP.fdiv (FP.i2f (t2_offA f (f 280 2).toInt.toNat)) (FP.i2f (f 280 2))).toInt32
theorem t2_off_r {f : t2_F} {A : Nat} (I : c0_I f f) (hC : A < (f 280 2).toInt.toNat) : c0_reckonedPart_v f A = (((1000 : Int64) * ((f 280 (444 + 61 * A + 4)).toInt64)) / (((3600 : Int32) * (f 280 (444 + 61 * A + 0))).toInt64)).toInt32 ∧ 0 ≤ (c0_reckonedPart_v f A).toInt ∧ (c0_reckonedPart_v f A).toInt ≤ 1000 := by
  obtain ⟨⟨rc, gc⟩, oc⟩ := I.cell hC
  obtain ⟨⟨e0, e1, e2⟩, -, -, e8, -⟩ := rc
  have hcap : t2_cap (f 280 (444 + 61 * A + 0)) := oc.1.1
  have er : c0_reckonedPart_v f A = t2_partOf_v (f 280 (444 + 61 * A + 4)) ((f 280 (444 + 61 * A + 0)) * (3600 : Int32)) := by
    unfold c0_reckonedPart_v
    rw [e8, e0]
  refine ⟨er.trans (t2_partAt_eq hcap).symm, ?_⟩
  rw [er]
  have e := t2_full_i hcap
  have r := oc.2.2.1
  exact (t2_partOf_b r.1 (by rw [e]; have := r.2; omega)).2
theorem t2_off_b {f : t2_F} (I : c0_I f f) : ∀ k : Nat, k ≤ (f 280 2).toInt.toNat → 0 ≤ (t2_offA f k).toInt ∧ (t2_offA f k).toInt ≤ 1000 * (k : Int) := by
  have n16 := I.rhu.1
  intro k
  induction k with
  | zero =>
    intro _
    have z : (0 : Int32).toInt = 0 := rfl
    refine ⟨?_, ?_⟩
    · show 0 ≤ (0 : Int32).toInt
      omega
    · show (0 : Int32).toInt ≤ 1000 * ((0 : Nat) : Int)
      omega
  | succ k ih =>
    intro hk
    obtain ⟨a1, a2⟩ := ih (by omega)
    have r := (t2_off_r I (A := k) (by omega)).2
    have p : 0 ≤ (f (18 + 4 * k) 3).toInt ∧ (f (18 + 4 * k) 3).toInt ≤ 1000 := by
      rw [I.part (by omega) (0 : Int32)]
      exact t2_ckp (I.ck (by omega))
    have b := t2_abs_d r ⟨by omega, p.2⟩
    have h1 : 0 ≤ (t2_abs_v ((c0_reckonedPart_v f k) - (f (18 + 4 * k) 3))).toInt ∧ (t2_abs_v ((c0_reckonedPart_v f k) - (f (18 + 4 * k) 3))).toInt ≤ 1000 := by
      have s : ((c0_reckonedPart_v f k) - (f (18 + 4 * k) 3)).toInt = (c0_reckonedPart_v f k).toInt - (f (18 + 4 * k) 3).toInt := at_sub32 (by omega) (by omega)
      unfold t2_abs_v
      split
      · rw [Int32.toInt_neg, s, Int.bmod_eq_of_le (by omega) (by omega)]
        have c0 : (0 : Int32).toInt = 0 := rfl
        omega
      · have c0 : (0 : Int32).toInt = 0 := rfl
        omega
    show 0 ≤ (t2_offA f k + t2_abs_v ((c0_reckonedPart_v f k) - (f (18 + 4 * k) 3))).toInt ∧ (t2_offA f k + t2_abs_v ((c0_reckonedPart_v f k) - (f (18 + 4 * k) 3))).toInt ≤ 1000 * ((k + 1 : Nat) : Int)
    rw [at_add32 (by omega) (by omega)]
    omega
theorem x_off_q {L : Nat} {xs : Nat → Int32} {f : t2_F} {l : t2_L} {Q : Option fl_V → fl_M → Prop} (I : c0_I f f) (k : Q (some (.inl (t2_offV f))) (f, l)) : fl_Tq (pw_P L xs) 157 0 [some (.inr (.inr (.inl (0, 0)))), none, none] [] (f, l) Q := by
  have n16 := I.rhu.1
  have e5 : f 1 5 = f 280 2 := I.1.1.1
  unfold t2_offV at k
  refine x_off_A (fun h => ?_) (fun h => ?_)
  · rw [e5] at h
    rw [if_pos h] at k
    exact k
  · rw [e5] at h
    rw [if_neg h] at k
    refine t2_for (n := (f 280 2).toInt.toNat) (S := fun j => fl_Tq (pw_P L xs) 157 16 [some (.inr (.inr (.inl (0, 0)))), some (.inl (t2_offA f j)), some (.inl (Int32.ofNat j))] [] (f, l) Q) (fun j hj hS => ?_) ?_
    · have ej : (Int32.ofNat j).toInt = j := at_ofN (by omega)
      refine x_off_B (by omega) (by rw [ej, e5]; omega) ?_
      rw [t2_k1]
      exact hS
    · have ej : (Int32.ofNat (f 280 2).toInt.toNat).toInt = ((f 280 2).toInt.toNat : Nat) := at_ofN (by omega)
      refine x_off_C (by rw [ej, e5]; omega) ?_
      have b := t2_off_b I _ (Nat.le_refl _)
      generalize t2_offA f (f 280 2).toInt.toNat = S at *
      refine fl_Tq.stp rfl rfl (fl_bo rfl) rfl ?_
      refine fl_Tq.un (w := fl_f (FP.i2f S)) rfl rfl rfl (fun _ _ _ => rfl) ?_
      refine fl_Tq.stp rfl rfl (fl_bo rfl) rfl ?_
      refine fl_Tq.stp rfl rfl (fl_bo rfl) rfl ?_
      refine fl_Tq.stp rfl rfl (fl_bo rfl) rfl ?_
      show fl_Tq (pw_P L xs) 157 73 [some (.inr (.inr (.inl (0, 0)))), some (.inl S), some (.inl (Int32.ofNat (f 280 2).toInt.toNat))] [.inl (f 1 5), fl_f (FP.i2f S)] (f, l) Q
      rw [e5]
      refine fl_Tq.un (w := fl_f (FP.i2f (f 280 2))) rfl rfl rfl (fun _ _ _ => rfl) ?_
      have hx' : f 280 2 ≠ 0 := fun q => h (by rw [q]; rfl)
      have nn : vf_n32 (FP.fdiv (FP.i2f S) (FP.i2f (f 280 2))) := fp_div32 (fp_of_int32 S).1 ((fp_of_int32 _).2 hx').1 ((fp_of_int32 _).2 hx').2
      refine fl_Tq.bi (u := fl_f (FP.fdiv (FP.i2f S) (FP.i2f (f 280 2)))) rfl rfl rfl (fl_fbin (fun _ _ _ => rfl) nn) ?_
      refine fl_Tq.cal rfl rfl (fl_bo rfl) rfl ?_
      rcases fg_quo (s := S) (a := f 280 2) (S := S.toInt.toNat) (A := (f 280 2).toInt.toNat) (by omega) (by omega) (by omega) (by omega) (by omega) with ⟨-, e⟩ | ⟨E, T, g1, g2, g3, e⟩
      · rw [e] at k ⊢
        refine fg_182z ?_
        exact fl_Tq.ret rfl rfl rfl k
      · rw [e] at k ⊢
        refine fg_182 g1 g2 g3 ?_
        exact fl_Tq.ret rfl rfl rfl k
theorem y_off_q {L : Nat} {xs : Nat → Int32} {f : t2_F} {l : t2_L} {Q : Option fl_V → fl_M → Prop} (I : c0_I f f) (k : Q (some (.inl (t2_offV f))) (f, l)) : fl_Tq (pw_P L xs) 293 0 [some (.inr (.inr (.inl (76, 277)))), none, none] [] (f, l) Q := by
  have n16 := I.rhu.1
  unfold t2_offV at k
  refine y_off_A ?_
  refine t2_for (n := (f 280 2).toInt.toNat) (S := fun j => fl_Tq (pw_P L xs) 293 4 [some (.inr (.inr (.inl (76, 277)))), some (.inl (t2_offA f j)), some (.inl (Int32.ofNat j))] [] (f, l) Q) (fun j hj hS => ?_) ?_
  · have ej : (Int32.ofNat j).toInt = j := at_ofN (by omega)
    refine y_off_B (by omega) (by omega) (by rw [ej]; omega) I.rhu.2 ?_
    rw [t2_k1]
    have e : t2_offA f j + r_size_v ((((1000 : Int64) * ((f 280 (444 + 61 * j + 4)).toInt64)) / (((3600 : Int32) * (f 280 (444 + 61 * j + 0))).toInt64)).toInt32 - (r_partOf_v f (Int32.ofNat j) j)) = t2_offA f (j + 1) := by
      rw [← (t2_off_r I hj).1, ← I.part hj (Int32.ofNat j)]
      rfl
    rw [e]
    exact hS
  · have ej : (Int32.ofNat (f 280 2).toInt.toNat).toInt = ((f 280 2).toInt.toNat : Nat) := at_ofN (by omega)
    refine y_off_C (by rw [ej]; omega) ?_
    refine y_off_D (fun h => ?_) (fun h => ?_)
    · rw [if_pos h] at k
      exact k
    · rw [if_neg h] at k
      have b := t2_off_b I _ (Nat.le_refl _)
      generalize t2_offA f (f 280 2).toInt.toNat = S at *
      refine fl_Tq.stp rfl rfl (fl_bo rfl) rfl ?_
      refine fl_Tq.un (w := fl_f (FP.i2f S)) rfl rfl rfl (fun _ _ _ => rfl) ?_
      refine fl_Tq.stp rfl rfl (fl_bo rfl) rfl ?_
      refine fl_Tq.stp rfl rfl (fl_bo rfl) rfl ?_
      refine fl_Tq.stp rfl rfl (fl_bo rfl) rfl ?_
      refine fl_Tq.ld (p := 280) (τ := 79) (n := 29780) (z := (0, 0, 0)) (k := 2) rfl (fl_bo rfl) rfl rfl (by decide) ?_
      refine fl_Tq.un (w := fl_f (FP.i2f (f 280 2))) rfl rfl rfl (fun _ _ _ => rfl) ?_
      have hx' : f 280 2 ≠ 0 := fun q => h (by rw [q]; rfl)
      have nn : vf_n32 (FP.fdiv (FP.i2f S) (FP.i2f (f 280 2))) := fp_div32 (fp_of_int32 S).1 ((fp_of_int32 _).2 hx').1 ((fp_of_int32 _).2 hx').2
      refine fl_Tq.bi (u := fl_f (FP.fdiv (FP.i2f S) (FP.i2f (f 280 2)))) rfl rfl rfl (fl_fbin (fun _ _ _ => rfl) nn) ?_
      refine fl_Tq.cal rfl rfl (fl_bo rfl) rfl ?_
      rcases fg_quo (s := S) (a := f 280 2) (S := S.toInt.toNat) (A := (f 280 2).toInt.toNat) (by omega) (by omega) (by omega) (by omega) (by omega) with ⟨-, e⟩ | ⟨E, T, g1, g2, g3, e⟩
      · rw [e] at k ⊢
        refine fg_329 (by decide +kernel) ?_
        exact fl_Tq.ret rfl rfl rfl k
      · rw [e] at k ⊢
        refine fg_329 (fg_self (by omega) (by omega) g3) ?_
        exact fl_Tq.ret rfl rfl rfl k
theorem t2_cmp_56 {L : Nat} {xs : Nat → Int32} {f : t2_F} {l : t2_L} (_hall : ∀ c ∈ at_CM ++ at_CA, at_Valid at_XI (pw_P L xs) c) (hg : t2_Z (f, l)) : fl_Tq (pw_P L xs) 157 0 (fl_args (am_mxl (pw_P L xs) 157) [lx_x]) [] (f, l) (t2_End L xs 293 [at_this]) := by
  have I : c0_I f f := hg.2.1
  show fl_Tq (pw_P L xs) 157 0 [some (.inr (.inr (.inl (0, 0)))), none, none] [] (f, l) _
  refine x_off_q I ⟨⟨_, rfl⟩, ?_⟩
  show fl_Tq (pw_P L xs) 293 0 [some (.inr (.inr (.inl (76, 277)))), none, none] [] (f, l) _
  exact y_off_q I ⟨rfl, hg⟩

end

/-! 95.05.33p59.lean.txt -/
section
theorem x_dn_A {L : Nat} {xs : Nat → Int32} {f : t2_F} {l : t2_L} {Q : Option fl_V → fl_M → Prop} {a : Int32}  (k : fl_Tq (pw_P L xs) 161 8 [some (.inr (.inr (.inl (0, 0)))), some (.inl a)] [.inr (.inr (.inl (1, 1))), .inr (.inr (.inl (49, 181)))] (f, l) Q) : fl_Tq (pw_P L xs) 161 0 [some (.inr (.inr (.inl (0, 0)))), some (.inl a)] [] (f, l) Q := by
  refine fl_Tq.stp (pc' := 1) (lv' := [some (.inr (.inr (.inl (0, 0)))), some (.inl a)]) (st' := [.inr (.inr (.inl (0, 0)))]) (m' := (f, l)) rfl rfl (fl_bo rfl) rfl ?_
  refine fl_Tq.stp (pc' := 4) (lv' := [some (.inr (.inr (.inl (0, 0)))), some (.inl a)]) (st' := [.inr (.inr (.inl (49, 181)))]) (m' := (f, l)) rfl rfl (fl_bo rfl) rfl ?_
  refine fl_Tq.stp (pc' := 5) (lv' := [some (.inr (.inr (.inl (0, 0)))), some (.inl a)]) (st' := [.inr (.inr (.inl (0, 0))), .inr (.inr (.inl (49, 181)))]) (m' := (f, l)) rfl rfl (fl_bo rfl) rfl ?_
  refine fl_Tq.stp (pc' := 8) (lv' := [some (.inr (.inr (.inl (0, 0)))), some (.inl a)]) (st' := [.inr (.inr (.inl (1, 1))), .inr (.inr (.inl (49, 181)))]) (m' := (f, l)) rfl rfl (fl_bo rfl) rfl ?_
  exact k
theorem x_dn_B {L : Nat} {xs : Nat → Int32} {f : t2_F} {l : t2_L} {Q : Option fl_V → fl_M → Prop} {a : Int32}  (k : fl_Tq (pw_P L xs) 161 15 [some (.inr (.inr (.inl (0, 0)))), some (.inl a)] [.inr (.inr (.inl (49, 181)))] (f, l) Q) : fl_Tq (pw_P L xs) 161 11 [some (.inr (.inr (.inl (0, 0)))), some (.inl a)] [] (f, l) Q := by
  refine fl_Tq.stp (pc' := 12) (lv' := [some (.inr (.inr (.inl (0, 0)))), some (.inl a)]) (st' := [.inr (.inr (.inl (0, 0)))]) (m' := (f, l)) rfl rfl (fl_bo rfl) rfl ?_
  refine fl_Tq.stp (pc' := 15) (lv' := [some (.inr (.inr (.inl (0, 0)))), some (.inl a)]) (st' := [.inr (.inr (.inl (49, 181)))]) (m' := (f, l)) rfl rfl (fl_bo rfl) rfl ?_
  exact k
theorem x_dn_C {L : Nat} {xs : Nat → Int32} {f : t2_F} {l : t2_L} {Q : Option fl_V → fl_M → Prop} {a z : Int32}  (k : fl_Tq (pw_P L xs) 161 24 [some (.inr (.inr (.inl (0, 0)))), some (.inl a)] [.inl a, .inr (.inr (.inl (49, 181)))] (f, l) Q) : fl_Tq (pw_P L xs) 161 18 [some (.inr (.inr (.inl (0, 0)))), some (.inl a)] [.inl z] (f, l) Q := by
  refine fl_Tq.stp (pc' := 19) (lv' := [some (.inr (.inr (.inl (0, 0)))), some (.inl a)]) (st' := []) (m' := (f, l)) rfl rfl (fl_bo rfl) rfl ?_
  refine fl_Tq.stp (pc' := 20) (lv' := [some (.inr (.inr (.inl (0, 0)))), some (.inl a)]) (st' := [.inr (.inr (.inl (0, 0)))]) (m' := (f, l)) rfl rfl (fl_bo rfl) rfl ?_
  refine fl_Tq.stp (pc' := 23) (lv' := [some (.inr (.inr (.inl (0, 0)))), some (.inl a)]) (st' := [.inr (.inr (.inl (49, 181)))]) (m' := (f, l)) rfl rfl (fl_bo rfl) rfl ?_
  refine fl_Tq.stp (pc' := 24) (lv' := [some (.inr (.inr (.inl (0, 0)))), some (.inl a)]) (st' := [.inl a, .inr (.inr (.inl (49, 181)))]) (m' := (f, l)) rfl rfl (fl_bo rfl) rfl ?_
  exact k
theorem x_dn_D {L : Nat} {xs : Nat → Int32} {f : t2_F} {l : t2_L} {Q : Option fl_V → fl_M → Prop} {a y : Int32}  (k : Q (some (.inl y)) (f, l)) : fl_Tq (pw_P L xs) 161 27 [some (.inr (.inr (.inl (0, 0)))), some (.inl a)] [.inl y] (f, l) Q := by
  exact fl_Tq.ret rfl rfl rfl k
def tz_c161 : at_C := (161, [.inl (0, some 0), .inr (false, -2147483648, 2147483647)], [], some (.inr (false, -2147483648, 2147483647)), false, [(49, false, 5, 16), (51, false, 6, 8), (52, false, 0, 29), (53, false, 0, 2), (54, false, 0, 23), (55, false, 0, 11), (56, false, 0, 47), (57, false, 0, 39), (58, false, 3, 6), (59, false, 0, 10), (60, false, 0, 3), (61, false, 2, 3), (62, false, -69, 140), (64, false, 2, 3), (65, false, -93, 188), (66, false, 0, 18), (67, false, 2, 2), (68, false, 0, 31), (69, false, 0, 10), (70, false, 2, 3), (71, false, 0, 15), (72, false, 0, 15)])
set_option maxRecDepth 100000 in
theorem tz_c161_in : tz_c161 ∈ at_CM ++ at_CA := List.mem_of_getElem? (i := 168) rfl
def tz_c312 : at_C := (312, [.inl (76, some 277), .inr (false, -2147483648, 2147483647)], [], some (.inr (false, -2147483648, 2147483647)), false, [(76, false, 4, 4), (76, false, 6, 6), (79, false, 2, 1419), (79, true, 1, 1), (79, true, 3, 4), (79, true, 7, 8), (79, true, 10, 60), (81, false, 0, 15), (82, false, 0, 1417)])
set_option maxRecDepth 100000 in
theorem tz_c312_in : tz_c312 ∈ at_CM ++ at_CA := List.mem_of_getElem? (i := 267) rfl
/-! ===== driven, on both sides ===== -/
theorem t2_cmp_59 {L : Nat} {xs : Nat → Int32} {f : t2_F} {l : t2_L} {a : Int32} (hall : ∀ c ∈ at_CM ++ at_CA, at_Valid at_XI (pw_P L xs) c) (hg : t2_Z (f, l)) : fl_Tq (pw_P L xs) 161 0 (fl_args (am_mxl (pw_P L xs) 161) [lx_x, .inl a]) [] (f, l) (t2_End L xs 312 [at_this, .inl a]) := by
  refine t2_trial (hall _ tz_c161_in) rfl hg ⟨lx_kx _, lx_ki _, True.intro⟩ rfl (fun m Z => t2_acallR (hall _ tz_c312_in) rfl Z ⟨at_k277 _, lx_ki _, True.intro⟩ rfl rfl rfl rfl (t2_z312 hall Z.1)) ?_
  show fl_Tq (pw_P L xs) 161 0 [some (.inr (.inr (.inl (0, 0)))), some (.inl a)] [] (f, l) _
  refine x_dn_A ?_
  refine fl_Tq.cal rfl rfl (fl_bo rfl) rfl ?_
  refine t2_begun hg (fun M mf K => ?_)
  refine x_dn_B ?_
  refine fl_Tq.cal rfl rfl (fl_bo rfl) rfl ?_
  have n19 := K.1.2.2.2.2.2.2.2.2.2.1.1
  refine c2_passDrive_q K ?_
  refine x_dn_C ?_
  refine fl_Tq.cal rfl rfl (fl_bo rfl) rfl ?_
  obtain ⟨KD, -, -⟩ := K.drv (f 280 19).toInt.toNat (by omega)
  have DF : ∀ p : Nat, p < 181 ∨ 271 ≤ p → (c2_drv M (f 280 19).toInt.toNat).1 p = f p := fun p hp => by rw [K.drvP hp _ (by omega), mf p hp]
  refine c2_tell_q KD.1.hc ?_
  refine x_dn_D ?_
  refine ⟨_, _, rfl, rfl, DF, ?_⟩
  have e : (c2_drv M (f 280 19).toInt.toNat).1 280 = f 280 := DF 280 (by decide)
  have e7 : (c2_drv M (f 280 19).toInt.toNat).1 277 = f 277 := DF 277 (by decide)
  have e9 : (c2_drv M (f 280 19).toInt.toNat).1 279 = f 279 := DF 279 (by decide)
  show fl_Tq (pw_P L xs) 312 0 [some (.inr (.inr (.inl (76, 277)))), some (.inl a), none, none] [] (_, l) _
  refine z312_A ?_
  refine fl_Tq.cal rfl rfl (fl_bo rfl) rfl ?_
  refine r_putAside_q (m := ((c2_drv M (f 280 19).toInt.toNat).1, l)) (fun g gp _ => ?_)
  have gp : ∀ p : Nat, p ≠ 283 → g p = (c2_drv M (f 280 19).toInt.toNat).1 p := gp
  refine z312_B ?_
  refine fl_Tq.cal rfl rfl (fl_bo rfl) rfl ?_
  have Kg : c2_K M g := ⟨K.1.ext (fun p _ _ => rfl) (fun w _ _ => by rw [gp 280 (by decide), e]), K.2.1, K.2.2.1.same (by rw [gp 279 (by decide), e9]), by rw [gp 277 (by decide), e7]; exact K.2.2.2⟩
  have gn : g 280 19 = f 280 19 := by rw [gp 280 (by decide), e]
  refine c2_driveNow_q Kg ?_
  rw [gn]
  obtain ⟨KR, -, -⟩ := Kg.drv (f 280 19).toInt.toNat (by rw [gn]; omega)
  refine z312_C ?_
  refine fl_Tq.cal rfl rfl (fl_bo rfl) rfl ?_
  refine r_is_q KR.1.rhu.1 KR.2.2.1 KR.1.rhu.2 ?_
  refine z312_D ?_
  refine fl_Tq.cal rfl rfl (fl_bo rfl) rfl ?_
  refine r_bringBack_q (m := ((r_drv g (f 280 19).toInt.toNat).1, l)) (fun g2 _ _ _ => ?_)
  refine z312_E ?_
  show some (Sum.inl (r_is_v _ a)) = some (Sum.inl (c2_tell_v _ a))
  rw [KR.1.tell]

end
