/-! 93.04.g15.lean.txt -/
section
theorem t2_win10 {x : Int32} (h : ¬ (t2_within_v x (0 : Int32) (10 : Int32)).toInt = 0) : 0 ≤ x.toInt ∧ x.toInt ≤ 10 := by
  have e0 : (0 : Int32).toInt = 0 := rfl
  have e10 : (10 : Int32).toInt = 10 := by decide +kernel
  unfold t2_within_v at h
  repeat' split at h
  all_goals first | omega | exact absurd rfl h
noncomputable def c0_couldReset_v (f : t2_F) (x : Int32) : Int32 := if (t2_within_v x (0 : Int32) (10 : Int32)).toInt = 0 then (0 : Int32) else (if ((f 10 3) &&& ((1 : Int32) <<< (x &&& 31))).toInt = 0 then (0 : Int32) else (if (f 1 7).toInt = 0 then (if ((f 1 6) - (f 11 x.toInt.toNat)).toInt < (f 4 21).toInt then (0 : Int32) else (1 : Int32)) else (0 : Int32)))
theorem c0_couldReset_q {L : Nat} {xs : Nat → Int32} {f : t2_F} {l : t2_L} {Q : Option fl_V → fl_M → Prop} {x : Int32}  (k : Q (some (.inl (c0_couldReset_v f x))) (f, l)) : fl_Tq (pw_P L xs) 37 0 (fl_args (am_mxl (pw_P L xs) 37) [.inr (.inr (.inl (1, 1))), .inl x]) [] (f, l) Q := by
  refine fl_Tq.stp (pc' := 1) (lv' := [some (.inr (.inr (.inl (1, 1)))), some (.inl x)]) (st' := [.inl x]) (m' := (f, l)) rfl rfl (fl_bo rfl) rfl ?_
  refine fl_Tq.cI (c := (0 : Int32)) rfl (by decide +kernel) (fl_bo rfl) ?_
  refine fl_Tq.cB (c := (10 : Int32)) rfl (by decide +kernel) (fl_bo rfl) ?_
  refine fl_Tq.cal rfl rfl (fl_bo rfl) rfl ?_
  refine t2_within_q  ?_
  show fl_Tq _ 37 7 [some (.inr (.inr (.inl (1, 1)))), some (.inl x)] [.inl (t2_within_v x (0 : Int32) (10 : Int32))] (f, l) _
  by_cases h1 : (t2_within_v x (0 : Int32) (10 : Int32)).toInt = 0
  · refine fl_Tq.zt rfl (fl_bo rfl) (c1_eq_t h1) rfl ?_
    refine fl_Tq.cI (c := (0 : Int32)) rfl (by decide +kernel) (fl_bo rfl) ?_
    refine fl_Tq.ret rfl rfl rfl ?_
    unfold c0_couldReset_v at k
    simp only [if_pos h1] at k
    exact k
  · refine fl_Tq.zf rfl (fl_bo rfl) (c1_eq_f h1) rfl ?_
    refine fl_Tq.stp (pc' := 11) (lv' := [some (.inr (.inr (.inl (1, 1)))), some (.inl x)]) (st' := [.inr (.inr (.inl (1, 1)))]) (m' := (f, l)) rfl rfl (fl_bo rfl) rfl ?_
    refine fl_Tq.stp (pc' := 14) (lv' := [some (.inr (.inr (.inl (1, 1)))), some (.inl x)]) (st' := [.inr (.inr (.inl (10, 10)))]) (m' := (f, l)) rfl rfl (fl_bo rfl) rfl ?_
    refine fl_Tq.gfV (k := 3) (v := f 10 3) rfl (fl_bo rfl) rfl rfl ?_
    refine fl_Tq.cI (c := (1 : Int32)) rfl (by decide +kernel) (fl_bo rfl) ?_
    refine fl_Tq.stp (pc' := 19) (lv' := [some (.inr (.inr (.inl (1, 1)))), some (.inl x)]) (st' := [.inl x, .inl (1 : Int32), .inl (f 10 3)]) (m' := (f, l)) rfl rfl (fl_bo rfl) rfl ?_
    refine fl_Tq.stp (pc' := 20) (lv' := [some (.inr (.inr (.inl (1, 1)))), some (.inl x)]) (st' := [.inl ((1 : Int32) <<< (x &&& 31)), .inl (f 10 3)]) (m' := (f, l)) rfl rfl (fl_bo rfl) rfl ?_
    refine fl_Tq.stp (pc' := 21) (lv' := [some (.inr (.inr (.inl (1, 1)))), some (.inl x)]) (st' := [.inl ((f 10 3) &&& ((1 : Int32) <<< (x &&& 31)))]) (m' := (f, l)) rfl rfl (fl_bo rfl) rfl ?_
    by_cases h2 : ((f 10 3) &&& ((1 : Int32) <<< (x &&& 31))).toInt = 0
    · refine fl_Tq.zf rfl (fl_bo rfl) (c1_ne_f h2) rfl ?_
      refine fl_Tq.cI (c := (0 : Int32)) rfl (by decide +kernel) (fl_bo rfl) ?_
      refine fl_Tq.ret rfl rfl rfl ?_
      unfold c0_couldReset_v at k
      simp only [if_neg h1, if_pos h2] at k
      exact k
    · refine fl_Tq.zt rfl (fl_bo rfl) (c1_ne_t h2) rfl ?_
      refine fl_Tq.stp (pc' := 27) (lv' := [some (.inr (.inr (.inl (1, 1)))), some (.inl x)]) (st' := [.inr (.inr (.inl (1, 1)))]) (m' := (f, l)) rfl rfl (fl_bo rfl) rfl ?_
      refine fl_Tq.gfV (k := 7) (v := f 1 7) rfl (fl_bo rfl) rfl rfl ?_
      by_cases h3 : (f 1 7).toInt = 0
      · refine fl_Tq.zf rfl (fl_bo rfl) (c1_ne_f h3) rfl ?_
        refine fl_Tq.stp (pc' := 34) (lv' := [some (.inr (.inr (.inl (1, 1)))), some (.inl x)]) (st' := [.inr (.inr (.inl (1, 1)))]) (m' := (f, l)) rfl rfl (fl_bo rfl) rfl ?_
        refine fl_Tq.gfV (k := 6) (v := f 1 6) rfl (fl_bo rfl) rfl rfl ?_
        refine fl_Tq.stp (pc' := 38) (lv' := [some (.inr (.inr (.inl (1, 1)))), some (.inl x)]) (st' := [.inr (.inr (.inl (1, 1))), .inl (f 1 6)]) (m' := (f, l)) rfl rfl (fl_bo rfl) rfl ?_
        refine fl_Tq.stp (pc' := 41) (lv' := [some (.inr (.inr (.inl (1, 1)))), some (.inl x)]) (st' := [.inr (.inr (.inl (10, 10))), .inl (f 1 6)]) (m' := (f, l)) rfl rfl (fl_bo rfl) rfl ?_
        refine fl_Tq.stp (pc' := 44) (lv' := [some (.inr (.inr (.inl (1, 1)))), some (.inl x)]) (st' := [.inr (.inr (.inl (11, 11))), .inl (f 1 6)]) (m' := (f, l)) rfl rfl (fl_bo rfl) rfl ?_
        refine fl_Tq.stp (pc' := 45) (lv' := [some (.inr (.inr (.inl (1, 1)))), some (.inl x)]) (st' := [.inl x, .inr (.inr (.inl (11, 11))), .inl (f 1 6)]) (m' := (f, l)) rfl rfl (fl_bo rfl) rfl ?_
        refine fl_Tq.ldV (p := 11) (τ := 11) (n := 11) (z := (0, 0, 0)) (k := x.toInt.toNat) (v := f 11 x.toInt.toNat) rfl (fl_bo rfl) rfl (t2_nn (t2_win10 h1).1) (by have := t2_win10 h1; omega) rfl ?_
        refine fl_Tq.stp (pc' := 47) (lv' := [some (.inr (.inr (.inl (1, 1)))), some (.inl x)]) (st' := [.inl ((f 1 6) - (f 11 x.toInt.toNat))]) (m' := (f, l)) rfl rfl (fl_bo rfl) rfl ?_
        refine fl_Tq.stp (pc' := 48) (lv' := [some (.inr (.inr (.inl (1, 1)))), some (.inl x)]) (st' := [.inr (.inr (.inl (1, 1))), .inl ((f 1 6) - (f 11 x.toInt.toNat))]) (m' := (f, l)) rfl rfl (fl_bo rfl) rfl ?_
        refine fl_Tq.stp (pc' := 51) (lv' := [some (.inr (.inr (.inl (1, 1)))), some (.inl x)]) (st' := [.inr (.inr (.inl (3, 3))), .inl ((f 1 6) - (f 11 x.toInt.toNat))]) (m' := (f, l)) rfl rfl (fl_bo rfl) rfl ?_
        refine fl_Tq.stp (pc' := 54) (lv' := [some (.inr (.inr (.inl (1, 1)))), some (.inl x)]) (st' := [.inr (.inr (.inl (4, 4))), .inl ((f 1 6) - (f 11 x.toInt.toNat))]) (m' := (f, l)) rfl rfl (fl_bo rfl) rfl ?_
        refine fl_Tq.cB (c := (21 : Int32)) rfl (by decide +kernel) (fl_bo rfl) ?_
        refine fl_Tq.ldV (p := 4) (τ := 4) (n := 30) (z := (0, 0, 0)) (k := 21) (v := f 4 21) rfl (fl_bo rfl) rfl (by decide +kernel) (by decide) rfl ?_
        by_cases h4 : ((f 1 6) - (f 11 x.toInt.toNat)).toInt < (f 4 21).toInt
        · refine fl_Tq.jt rfl (fl_bo rfl) (c2_lt_t h4) rfl ?_
          refine fl_Tq.cI (c := (0 : Int32)) rfl (by decide +kernel) (fl_bo rfl) ?_
          refine fl_Tq.ret rfl rfl rfl ?_
          unfold c0_couldReset_v at k
          simp only [if_neg h1, if_neg h2, if_pos h3, if_pos h4] at k
          exact k
        · refine fl_Tq.jf rfl (fl_bo rfl) (c2_lt_f h4) rfl ?_
          refine fl_Tq.cI (c := (1 : Int32)) rfl (by decide +kernel) (fl_bo rfl) ?_
          refine fl_Tq.stp (pc' := 65) (lv' := [some (.inr (.inr (.inl (1, 1)))), some (.inl x)]) (st' := [.inl (1 : Int32)]) (m' := (f, l)) rfl rfl (fl_bo rfl) rfl ?_
          refine fl_Tq.ret rfl rfl rfl ?_
          unfold c0_couldReset_v at k
          simp only [if_neg h1, if_neg h2, if_pos h3, if_neg h4] at k
          exact k
      · refine fl_Tq.zt rfl (fl_bo rfl) (c1_ne_t h3) rfl ?_
        refine fl_Tq.cI (c := (0 : Int32)) rfl (by decide +kernel) (fl_bo rfl) ?_
        refine fl_Tq.ret rfl rfl rfl ?_
        unfold c0_couldReset_v at k
        simp only [if_neg h1, if_neg h2, if_neg h3] at k
        exact k
noncomputable def c0_hasEnded_e2 (f : t2_F) (x : Int32) : Nat → Option Int32
  | 0 => none
  | k2 + 1 => match c0_hasEnded_e2 f x k2 with
    | some r => some r
    | none => if (f (18 + 4 * k2) 2).toInt = (if x.toInt = 0 then (f (18 + 4 * k2) 0) * (3600 : Int32) else (0 : Int32)).toInt then some (1 : Int32) else none
noncomputable def c0_hasEnded_v (f : t2_F) (x : Int32) : Int32 := match c0_hasEnded_e2 f x ((f 1 5).toInt.toNat) with | some r => r | none => (0 : Int32)
theorem c0_hasEnded_q {L : Nat} {xs : Nat → Int32} {f : t2_F} {l : t2_L} {Q : Option fl_V → fl_M → Prop} {x : Int32} (hc : 0 ≤ (f 1 5).toInt ∧ (f 1 5).toInt ≤ 16) (k : Q (some (.inl (c0_hasEnded_v f x))) (f, l)) : fl_Tq (pw_P L xs) 49 0 (fl_args (am_mxl (pw_P L xs) 49) [.inr (.inr (.inl (1, 1))), .inl x]) [] (f, l) Q := by
  refine fl_Tq.cI (c := (0 : Int32)) rfl (by decide +kernel) (fl_bo rfl) ?_
  refine fl_Tq.stp (pc' := 2) (lv' := [some (.inr (.inr (.inl (1, 1)))), some (.inl x), some (.inl (0 : Int32))]) (st' := []) (m' := (f, l)) rfl rfl (fl_bo rfl) rfl ?_
  have hm2 : ∀ (k : Nat) (r : Int32), c0_hasEnded_e2 f x k = some r → c0_hasEnded_e2 f x (k + 1) = some r := fun k r e => by
    unfold c0_hasEnded_e2
    rw [e]
  have hs2 : ∀ k2 : Nat, k2 < (f 1 5).toInt.toNat → c0_hasEnded_e2 f x k2 = none → (c0_hasEnded_e2 f x (k2 + 1) = none → fl_Tq (pw_P L xs) 49 2 [some (.inr (.inr (.inl (1, 1)))), some (.inl x), some (.inl (Int32.ofNat (k2 + 1)))] [] (f, l) Q) → fl_Tq (pw_P L xs) 49 2 [some (.inr (.inr (.inl (1, 1)))), some (.inl x), some (.inl (Int32.ofNat k2))] [] (f, l) Q := by
    intro k2 hk2 he hS
    refine fl_Tq.stp (pc' := 3) (lv' := [some (.inr (.inr (.inl (1, 1)))), some (.inl x), some (.inl (Int32.ofNat k2))]) (st' := [.inl (Int32.ofNat k2)]) (m' := (f, l)) rfl rfl (fl_bo rfl) rfl ?_
    refine fl_Tq.stp (pc' := 4) (lv' := [some (.inr (.inr (.inl (1, 1)))), some (.inl x), some (.inl (Int32.ofNat k2))]) (st' := [.inr (.inr (.inl (1, 1))), .inl (Int32.ofNat k2)]) (m' := (f, l)) rfl rfl (fl_bo rfl) rfl ?_
    refine fl_Tq.gfV (k := 5) (v := f 1 5) rfl (fl_bo rfl) rfl rfl ?_
    refine fl_Tq.jf rfl (fl_bo rfl) (c2_ge_f (t2_lk hk2 (t2_nn hc.1))) rfl ?_
    refine fl_Tq.stp (pc' := 11) (lv' := [some (.inr (.inr (.inl (1, 1)))), some (.inl x), some (.inl (Int32.ofNat k2))]) (st' := [.inr (.inr (.inl (1, 1)))]) (m' := (f, l)) rfl rfl (fl_bo rfl) rfl ?_
    refine fl_Tq.stp (pc' := 14) (lv' := [some (.inr (.inr (.inl (1, 1)))), some (.inl x), some (.inl (Int32.ofNat k2))]) (st' := [.inr (.inr (.inl (2, 2)))]) (m' := (f, l)) rfl rfl (fl_bo rfl) rfl ?_
    refine fl_Tq.stp (pc' := 15) (lv' := [some (.inr (.inr (.inl (1, 1)))), some (.inl x), some (.inl (Int32.ofNat k2))]) (st' := [.inl (Int32.ofNat k2), .inr (.inr (.inl (2, 2)))]) (m' := (f, l)) rfl rfl (fl_bo rfl) rfl ?_
    refine fl_Tq.qld (p := 2) (τ := 2) (n := 16) (t := 18) (b := 16) (d := 3) (k := k2) rfl (fl_bo rfl) rfl (at_ofN (by omega)) (by omega) ?_
    show fl_Tq _ 49 16 [some (.inr (.inr (.inl (1, 1)))), some (.inl x), some (.inl (Int32.ofNat k2))] [.inr (.inr (.inl (18, 18 + 4 * k2)))] (f, l) _
    refine fl_Tq.gfV (k := 2) (v := f (18 + 4 * k2) 2) rfl (fl_oks_ok ⟨(t2_kc0 (by omega)), True.intro⟩) rfl rfl ?_
    refine fl_Tq.stp (pc' := 20) (lv' := [some (.inr (.inr (.inl (1, 1)))), some (.inl x), some (.inl (Int32.ofNat k2))]) (st' := [.inl x, .inl (f (18 + 4 * k2) 2)]) (m' := (f, l)) rfl rfl (fl_bo rfl) rfl ?_
    have hj113 : fl_Tq (pw_P L xs) 49 36 [some (.inr (.inr (.inl (1, 1)))), some (.inl x), some (.inl (Int32.ofNat k2))] [.inl (if x.toInt = 0 then (f (18 + 4 * k2) 0) * (3600 : Int32) else (0 : Int32)), .inl (f (18 + 4 * k2) 2)] (f, l) Q → fl_Tq (pw_P L xs) 49 20 [some (.inr (.inr (.inl (1, 1)))), some (.inl x), some (.inl (Int32.ofNat k2))] [.inl x, .inl (f (18 + 4 * k2) 2)] (f, l) Q := by
      intro hJ
      by_cases h1 : x.toInt = 0
      · refine fl_Tq.zf rfl (fl_bo rfl) (c1_ne_f h1) rfl ?_
        refine fl_Tq.stp (pc' := 24) (lv' := [some (.inr (.inr (.inl (1, 1)))), some (.inl x), some (.inl (Int32.ofNat k2))]) (st' := [.inr (.inr (.inl (1, 1))), .inl (f (18 + 4 * k2) 2)]) (m' := (f, l)) rfl rfl (fl_bo rfl) rfl ?_
        refine fl_Tq.stp (pc' := 27) (lv' := [some (.inr (.inr (.inl (1, 1)))), some (.inl x), some (.inl (Int32.ofNat k2))]) (st' := [.inr (.inr (.inl (2, 2))), .inl (f (18 + 4 * k2) 2)]) (m' := (f, l)) rfl rfl (fl_bo rfl) rfl ?_
        refine fl_Tq.stp (pc' := 28) (lv' := [some (.inr (.inr (.inl (1, 1)))), some (.inl x), some (.inl (Int32.ofNat k2))]) (st' := [.inl (Int32.ofNat k2), .inr (.inr (.inl (2, 2))), .inl (f (18 + 4 * k2) 2)]) (m' := (f, l)) rfl rfl (fl_bo rfl) rfl ?_
        refine fl_Tq.qld (p := 2) (τ := 2) (n := 16) (t := 18) (b := 16) (d := 3) (k := k2) rfl (fl_bo rfl) rfl (at_ofN (by omega)) (by omega) ?_
        show fl_Tq _ 49 29 [some (.inr (.inr (.inl (1, 1)))), some (.inl x), some (.inl (Int32.ofNat k2))] [.inr (.inr (.inl (18, 18 + 4 * k2))), .inl (f (18 + 4 * k2) 2)] (f, l) _
        refine fl_Tq.cal rfl rfl (fl_oks_ok ⟨(t2_kc0 (by omega)), True.intro, True.intro⟩) rfl ?_
        refine fl_Tq.stp (pc' := 1) (lv' := [some (.inr (.inr (.inl (18, 18 + 4 * k2))))]) (st' := [.inr (.inr (.inl (18, 18 + 4 * k2)))]) (m' := (f, l)) rfl rfl (fl_bo rfl) rfl ?_
        refine fl_Tq.gfV (k := 0) (v := f (18 + 4 * k2) 0) rfl (fl_oks_ok ⟨(t2_kc0 (by omega)), True.intro⟩) rfl rfl ?_
        refine fl_Tq.cS (c := (3600 : Int32)) rfl (by decide +kernel) (fl_bo rfl) ?_
        refine fl_Tq.stp (pc' := 8) (lv' := [some (.inr (.inr (.inl (18, 18 + 4 * k2))))]) (st' := [.inl ((f (18 + 4 * k2) 0) * (3600 : Int32))]) (m' := (f, l)) rfl rfl (fl_bo rfl) rfl ?_
        refine fl_Tq.ret rfl rfl rfl ?_
        show fl_Tq _ 49 32 [some (.inr (.inr (.inl (1, 1)))), some (.inl x), some (.inl (Int32.ofNat k2))] [.inl ((f (18 + 4 * k2) 0) * (3600 : Int32)), .inl (f (18 + 4 * k2) 2)] (f, l) _
        refine fl_Tq.stp (pc' := 36) (lv' := [some (.inr (.inr (.inl (1, 1)))), some (.inl x), some (.inl (Int32.ofNat k2))]) (st' := [.inl ((f (18 + 4 * k2) 0) * (3600 : Int32)), .inl (f (18 + 4 * k2) 2)]) (m' := (f, l)) rfl rfl (fl_bo rfl) rfl ?_
        have e0 : (if x.toInt = 0 then (f (18 + 4 * k2) 0) * (3600 : Int32) else (0 : Int32)) = (f (18 + 4 * k2) 0) * (3600 : Int32) := by simp only [if_pos h1]
        rw [e0] at hJ
        exact hJ
      · refine fl_Tq.zt rfl (fl_bo rfl) (c1_ne_t h1) rfl ?_
        refine fl_Tq.cI (c := (0 : Int32)) rfl (by decide +kernel) (fl_bo rfl) ?_
        have e0 : (if x.toInt = 0 then (f (18 + 4 * k2) 0) * (3600 : Int32) else (0 : Int32)) = (0 : Int32) := by simp only [if_neg h1]
        rw [e0] at hJ
        exact hJ
    refine hj113 ?_
    show fl_Tq _ 49 36 [some (.inr (.inr (.inl (1, 1)))), some (.inl x), some (.inl (Int32.ofNat k2))] [.inl (if x.toInt = 0 then (f (18 + 4 * k2) 0) * (3600 : Int32) else (0 : Int32)), .inl (f (18 + 4 * k2) 2)] (f, l) _
    by_cases h2 : (f (18 + 4 * k2) 2).toInt = (if x.toInt = 0 then (f (18 + 4 * k2) 0) * (3600 : Int32) else (0 : Int32)).toInt
    · refine fl_Tq.jf rfl (fl_bo rfl) (c2_ne_f h2) rfl ?_
      refine fl_Tq.cI (c := (1 : Int32)) rfl (by decide +kernel) (fl_bo rfl) ?_
      have ee : c0_hasEnded_e2 f x (k2 + 1) = some (1 : Int32) := by
        unfold c0_hasEnded_e2
        rw [he]
        simp only [if_pos h2]
      have en : c0_hasEnded_e2 f x ((f 1 5).toInt.toNat) = some (1 : Int32) := t2_Em hm2 ee (by omega)
      refine fl_Tq.ret rfl rfl rfl ?_
      unfold c0_hasEnded_v at k
      simp only [en] at k
      exact k
    · refine fl_Tq.jt rfl (fl_bo rfl) (c2_ne_t h2) rfl ?_
      refine fl_Tq.stp (pc' := 44) (lv' := [some (.inr (.inr (.inl (1, 1)))), some (.inl x), some (.inl ((Int32.ofNat k2) + (1 : Int32)))]) (st' := []) (m' := (f, l)) rfl rfl (fl_bo rfl) rfl ?_
      refine fl_Tq.stp (pc' := 2) (lv' := [some (.inr (.inr (.inl (1, 1)))), some (.inl x), some (.inl ((Int32.ofNat k2) + (1 : Int32)))]) (st' := []) (m' := (f, l)) rfl rfl (fl_bo rfl) rfl ?_
      have ee : c0_hasEnded_e2 f x (k2 + 1) = none := by
        unfold c0_hasEnded_e2
        rw [he]
        simp only [if_neg h2]
      have hS := hS ee
      rw [← t2_k1] at hS
      exact hS
  refine t2_forE (E := c0_hasEnded_e2 f x) (S := fun k2 => fl_Tq (pw_P L xs) 49 2 [some (.inr (.inr (.inl (1, 1)))), some (.inl x), some (.inl (Int32.ofNat k2))] [] (f, l) Q) hs2 rfl (fun en2 => ?_)
  show fl_Tq (pw_P L xs) 49 2 [some (.inr (.inr (.inl (1, 1)))), some (.inl x), some (.inl (Int32.ofNat ((f 1 5).toInt.toNat)))] [] (f, l) _
  refine fl_Tq.stp (pc' := 3) (lv' := [some (.inr (.inr (.inl (1, 1)))), some (.inl x), some (.inl (Int32.ofNat ((f 1 5).toInt.toNat)))]) (st' := [.inl (Int32.ofNat ((f 1 5).toInt.toNat))]) (m' := (f, l)) rfl rfl (fl_bo rfl) rfl ?_
  refine fl_Tq.stp (pc' := 4) (lv' := [some (.inr (.inr (.inl (1, 1)))), some (.inl x), some (.inl (Int32.ofNat ((f 1 5).toInt.toNat)))]) (st' := [.inr (.inr (.inl (1, 1))), .inl (Int32.ofNat ((f 1 5).toInt.toNat))]) (m' := (f, l)) rfl rfl (fl_bo rfl) rfl ?_
  refine fl_Tq.gfV (k := 5) (v := f 1 5) rfl (fl_bo rfl) rfl rfl ?_
  refine fl_Tq.jt rfl (fl_bo rfl) (c2_ge_t (t2_ln (t2_nn hc.1))) rfl ?_
  refine fl_Tq.cI (c := (0 : Int32)) rfl (by decide +kernel) (fl_bo rfl) ?_
  refine fl_Tq.ret rfl rfl rfl ?_
  unfold c0_hasEnded_v at k
  simp only [en2] at k
  exact k
noncomputable def c0_placeOf_a15 (f : t2_F) (x : Int32) : Nat → Int32
  | 0 => (0 : Int32)
  | k15 + 1 => (c0_placeOf_a15 f x k15) + (if (if (f (18 + 4 * k15) 3).toInt = (f (18 + 4 * x.toInt.toNat) 3).toInt then (if (Int32.ofNat k15).toInt < x.toInt then (1 : Int32) else (0 : Int32)) else (0 : Int32)).toInt = 0 then (if (f (18 + 4 * x.toInt.toNat) 3).toInt < (f (18 + 4 * k15) 3).toInt then (1 : Int32) else (0 : Int32)) else (1 : Int32))
noncomputable def c0_placeOf_v (f : t2_F) (x : Int32) : Int32 := c0_placeOf_a15 f x ((f 1 5).toInt.toNat)
theorem c0_placeOf_q {L : Nat} {xs : Nat → Int32} {f : t2_F} {l : t2_L} {Q : Option fl_V → fl_M → Prop} {x : Int32} (hc : 0 ≤ (f 1 5).toInt ∧ (f 1 5).toInt ≤ 16) (hx : 0 ≤ x.toInt ∧ x.toInt < 16) (k : Q (some (.inl (c0_placeOf_v f x))) (f, l)) : fl_Tq (pw_P L xs) 47 0 (fl_args (am_mxl (pw_P L xs) 47) [.inr (.inr (.inl (1, 1))), .inl x]) [] (f, l) Q := by
  refine fl_Tq.cI (c := (0 : Int32)) rfl (by decide +kernel) (fl_bo rfl) ?_
  refine fl_Tq.stp (pc' := 2) (lv' := [some (.inr (.inr (.inl (1, 1)))), some (.inl x), some (.inl (0 : Int32)), none, none, none]) (st' := []) (m' := (f, l)) rfl rfl (fl_bo rfl) rfl ?_
  refine fl_Tq.stp (pc' := 3) (lv' := [some (.inr (.inr (.inl (1, 1)))), some (.inl x), some (.inl (0 : Int32)), none, none, none]) (st' := [.inr (.inr (.inl (1, 1)))]) (m' := (f, l)) rfl rfl (fl_bo rfl) rfl ?_
  refine fl_Tq.stp (pc' := 6) (lv' := [some (.inr (.inr (.inl (1, 1)))), some (.inl x), some (.inl (0 : Int32)), none, none, none]) (st' := [.inr (.inr (.inl (2, 2)))]) (m' := (f, l)) rfl rfl (fl_bo rfl) rfl ?_
  refine fl_Tq.stp (pc' := 7) (lv' := [some (.inr (.inr (.inl (1, 1)))), some (.inl x), some (.inl (0 : Int32)), none, none, none]) (st' := [.inl x, .inr (.inr (.inl (2, 2)))]) (m' := (f, l)) rfl rfl (fl_bo rfl) rfl ?_
  refine fl_Tq.qld (p := 2) (τ := 2) (n := 16) (t := 18) (b := 16) (d := 3) (k := x.toInt.toNat) rfl (fl_bo rfl) rfl (t2_nn hx.1) (by omega) ?_
  show fl_Tq _ 47 8 [some (.inr (.inr (.inl (1, 1)))), some (.inl x), some (.inl (0 : Int32)), none, none, none] [.inr (.inr (.inl (18, 18 + 4 * x.toInt.toNat)))] (f, l) _
  refine fl_Tq.gfV (k := 3) (v := f (18 + 4 * x.toInt.toNat) 3) rfl (fl_oks_ok ⟨(t2_kc0 (by omega)), True.intro⟩) rfl rfl ?_
  refine fl_Tq.stp (pc' := 12) (lv' := [some (.inr (.inr (.inl (1, 1)))), some (.inl x), some (.inl (0 : Int32)), some (.inl (f (18 + 4 * x.toInt.toNat) 3)), none, none]) (st' := []) (m' := (f, l)) rfl rfl (fl_bo rfl) rfl ?_
  refine fl_Tq.cI (c := (0 : Int32)) rfl (by decide +kernel) (fl_bo rfl) ?_
  refine fl_Tq.stp (pc' := 15) (lv' := [some (.inr (.inr (.inl (1, 1)))), some (.inl x), some (.inl (0 : Int32)), some (.inl (f (18 + 4 * x.toInt.toNat) 3)), some (.inl (0 : Int32)), none]) (st' := []) (m' := (f, l)) rfl rfl (fl_bo rfl) rfl ?_
  have hs15 : ∀ k15 : Nat, k15 < (f 1 5).toInt.toNat → fl_Tq (pw_P L xs) 47 15 [some (.inr (.inr (.inl (1, 1)))), some (.inl x), some (.inl (c0_placeOf_a15 f x (k15 + 1))), some (.inl (f (18 + 4 * x.toInt.toNat) 3)), some (.inl (Int32.ofNat (k15 + 1))), none] [] (f, l) Q → fl_Tq (pw_P L xs) 47 15 [some (.inr (.inr (.inl (1, 1)))), some (.inl x), some (.inl (c0_placeOf_a15 f x k15)), some (.inl (f (18 + 4 * x.toInt.toNat) 3)), some (.inl (Int32.ofNat k15)), none] [] (f, l) Q := by
    intro k15 hk15 hS
    refine fl_Tq.stp (pc' := 17) (lv' := [some (.inr (.inr (.inl (1, 1)))), some (.inl x), some (.inl (c0_placeOf_a15 f x k15)), some (.inl (f (18 + 4 * x.toInt.toNat) 3)), some (.inl (Int32.ofNat k15)), none]) (st' := [.inl (Int32.ofNat k15)]) (m' := (f, l)) rfl rfl (fl_bo rfl) rfl ?_
    refine fl_Tq.stp (pc' := 18) (lv' := [some (.inr (.inr (.inl (1, 1)))), some (.inl x), some (.inl (c0_placeOf_a15 f x k15)), some (.inl (f (18 + 4 * x.toInt.toNat) 3)), some (.inl (Int32.ofNat k15)), none]) (st' := [.inr (.inr (.inl (1, 1))), .inl (Int32.ofNat k15)]) (m' := (f, l)) rfl rfl (fl_bo rfl) rfl ?_
    refine fl_Tq.gfV (k := 5) (v := f 1 5) rfl (fl_bo rfl) rfl rfl ?_
    refine fl_Tq.jf rfl (fl_bo rfl) (c2_ge_f (t2_lk hk15 (t2_nn hc.1))) rfl ?_
    refine fl_Tq.stp (pc' := 25) (lv' := [some (.inr (.inr (.inl (1, 1)))), some (.inl x), some (.inl (c0_placeOf_a15 f x k15)), some (.inl (f (18 + 4 * x.toInt.toNat) 3)), some (.inl (Int32.ofNat k15)), none]) (st' := [.inr (.inr (.inl (1, 1)))]) (m' := (f, l)) rfl rfl (fl_bo rfl) rfl ?_
    refine fl_Tq.stp (pc' := 28) (lv' := [some (.inr (.inr (.inl (1, 1)))), some (.inl x), some (.inl (c0_placeOf_a15 f x k15)), some (.inl (f (18 + 4 * x.toInt.toNat) 3)), some (.inl (Int32.ofNat k15)), none]) (st' := [.inr (.inr (.inl (2, 2)))]) (m' := (f, l)) rfl rfl (fl_bo rfl) rfl ?_
    refine fl_Tq.stp (pc' := 30) (lv' := [some (.inr (.inr (.inl (1, 1)))), some (.inl x), some (.inl (c0_placeOf_a15 f x k15)), some (.inl (f (18 + 4 * x.toInt.toNat) 3)), some (.inl (Int32.ofNat k15)), none]) (st' := [.inl (Int32.ofNat k15), .inr (.inr (.inl (2, 2)))]) (m' := (f, l)) rfl rfl (fl_bo rfl) rfl ?_
    refine fl_Tq.qld (p := 2) (τ := 2) (n := 16) (t := 18) (b := 16) (d := 3) (k := k15) rfl (fl_bo rfl) rfl (at_ofN (by omega)) (by omega) ?_
    show fl_Tq _ 47 31 [some (.inr (.inr (.inl (1, 1)))), some (.inl x), some (.inl (c0_placeOf_a15 f x k15)), some (.inl (f (18 + 4 * x.toInt.toNat) 3)), some (.inl (Int32.ofNat k15)), none] [.inr (.inr (.inl (18, 18 + 4 * k15)))] (f, l) _
    refine fl_Tq.gfV (k := 3) (v := f (18 + 4 * k15) 3) rfl (fl_oks_ok ⟨(t2_kc0 (by omega)), True.intro⟩) rfl rfl ?_
    refine fl_Tq.stp (pc' := 35) (lv' := [some (.inr (.inr (.inl (1, 1)))), some (.inl x), some (.inl (c0_placeOf_a15 f x k15)), some (.inl (f (18 + 4 * x.toInt.toNat) 3)), some (.inl (Int32.ofNat k15)), none]) (st' := [.inl (f (18 + 4 * x.toInt.toNat) 3), .inl (f (18 + 4 * k15) 3)]) (m' := (f, l)) rfl rfl (fl_bo rfl) rfl ?_
    have hj114 : fl_Tq (pw_P L xs) 47 49 [some (.inr (.inr (.inl (1, 1)))), some (.inl x), some (.inl (c0_placeOf_a15 f x k15)), some (.inl (f (18 + 4 * x.toInt.toNat) 3)), some (.inl (Int32.ofNat k15)), none] [.inl (if (f (18 + 4 * k15) 3).toInt = (f (18 + 4 * x.toInt.toNat) 3).toInt then (if (Int32.ofNat k15).toInt < x.toInt then (1 : Int32) else (0 : Int32)) else (0 : Int32))] (f, l) Q → fl_Tq (pw_P L xs) 47 35 [some (.inr (.inr (.inl (1, 1)))), some (.inl x), some (.inl (c0_placeOf_a15 f x k15)), some (.inl (f (18 + 4 * x.toInt.toNat) 3)), some (.inl (Int32.ofNat k15)), none] [.inl (f (18 + 4 * x.toInt.toNat) 3), .inl (f (18 + 4 * k15) 3)] (f, l) Q := by
      intro hJ
      by_cases h1 : (f (18 + 4 * k15) 3).toInt = (f (18 + 4 * x.toInt.toNat) 3).toInt
      · refine fl_Tq.jf rfl (fl_bo rfl) (c2_ne_f h1) rfl ?_
        refine fl_Tq.stp (pc' := 40) (lv' := [some (.inr (.inr (.inl (1, 1)))), some (.inl x), some (.inl (c0_placeOf_a15 f x k15)), some (.inl (f (18 + 4 * x.toInt.toNat) 3)), some (.inl (Int32.ofNat k15)), none]) (st' := [.inl (Int32.ofNat k15)]) (m' := (f, l)) rfl rfl (fl_bo rfl) rfl ?_
        refine fl_Tq.stp (pc' := 41) (lv' := [some (.inr (.inr (.inl (1, 1)))), some (.inl x), some (.inl (c0_placeOf_a15 f x k15)), some (.inl (f (18 + 4 * x.toInt.toNat) 3)), some (.inl (Int32.ofNat k15)), none]) (st' := [.inl x, .inl (Int32.ofNat k15)]) (m' := (f, l)) rfl rfl (fl_bo rfl) rfl ?_
        by_cases h2 : (Int32.ofNat k15).toInt < x.toInt
        · refine fl_Tq.jf rfl (fl_bo rfl) (c2_ge_f h2) rfl ?_
          refine fl_Tq.cI (c := (1 : Int32)) rfl (by decide +kernel) (fl_bo rfl) ?_
          refine fl_Tq.stp (pc' := 49) (lv' := [some (.inr (.inr (.inl (1, 1)))), some (.inl x), some (.inl (c0_placeOf_a15 f x k15)), some (.inl (f (18 + 4 * x.toInt.toNat) 3)), some (.inl (Int32.ofNat k15)), none]) (st' := [.inl (1 : Int32)]) (m' := (f, l)) rfl rfl (fl_bo rfl) rfl ?_
          have e0 : (if (f (18 + 4 * k15) 3).toInt = (f (18 + 4 * x.toInt.toNat) 3).toInt then (if (Int32.ofNat k15).toInt < x.toInt then (1 : Int32) else (0 : Int32)) else (0 : Int32)) = (1 : Int32) := by simp only [if_pos h1, if_pos h2]
          rw [e0] at hJ
          exact hJ
        · refine fl_Tq.jt rfl (fl_bo rfl) (c2_ge_t h2) rfl ?_
          refine fl_Tq.cI (c := (0 : Int32)) rfl (by decide +kernel) (fl_bo rfl) ?_
          have e0 : (if (f (18 + 4 * k15) 3).toInt = (f (18 + 4 * x.toInt.toNat) 3).toInt then (if (Int32.ofNat k15).toInt < x.toInt then (1 : Int32) else (0 : Int32)) else (0 : Int32)) = (0 : Int32) := by simp only [if_pos h1, if_neg h2]
          rw [e0] at hJ
          exact hJ
      · refine fl_Tq.jt rfl (fl_bo rfl) (c2_ne_t h1) rfl ?_
        refine fl_Tq.cI (c := (0 : Int32)) rfl (by decide +kernel) (fl_bo rfl) ?_
        have e0 : (if (f (18 + 4 * k15) 3).toInt = (f (18 + 4 * x.toInt.toNat) 3).toInt then (if (Int32.ofNat k15).toInt < x.toInt then (1 : Int32) else (0 : Int32)) else (0 : Int32)) = (0 : Int32) := by simp only [if_neg h1]
        rw [e0] at hJ
        exact hJ
    refine hj114 ?_
    show fl_Tq _ 47 49 [some (.inr (.inr (.inl (1, 1)))), some (.inl x), some (.inl (c0_placeOf_a15 f x k15)), some (.inl (f (18 + 4 * x.toInt.toNat) 3)), some (.inl (Int32.ofNat k15)), none] [.inl (if (f (18 + 4 * k15) 3).toInt = (f (18 + 4 * x.toInt.toNat) 3).toInt then (if (Int32.ofNat k15).toInt < x.toInt then (1 : Int32) else (0 : Int32)) else (0 : Int32))] (f, l) _
    refine fl_Tq.stp (pc' := 51) (lv' := [some (.inr (.inr (.inl (1, 1)))), some (.inl x), some (.inl (c0_placeOf_a15 f x k15)), some (.inl (f (18 + 4 * x.toInt.toNat) 3)), some (.inl (Int32.ofNat k15)), some (.inl (if (f (18 + 4 * k15) 3).toInt = (f (18 + 4 * x.toInt.toNat) 3).toInt then (if (Int32.ofNat k15).toInt < x.toInt then (1 : Int32) else (0 : Int32)) else (0 : Int32)))]) (st' := []) (m' := (f, l)) rfl rfl (fl_bo rfl) rfl ?_
    refine fl_Tq.stp (pc' := 52) (lv' := [some (.inr (.inr (.inl (1, 1)))), some (.inl x), some (.inl (c0_placeOf_a15 f x k15)), some (.inl (f (18 + 4 * x.toInt.toNat) 3)), some (.inl (Int32.ofNat k15)), some (.inl (if (f (18 + 4 * k15) 3).toInt = (f (18 + 4 * x.toInt.toNat) 3).toInt then (if (Int32.ofNat k15).toInt < x.toInt then (1 : Int32) else (0 : Int32)) else (0 : Int32)))]) (st' := [.inl (c0_placeOf_a15 f x k15)]) (m' := (f, l)) rfl rfl (fl_bo rfl) rfl ?_
    refine fl_Tq.stp (pc' := 54) (lv' := [some (.inr (.inr (.inl (1, 1)))), some (.inl x), some (.inl (c0_placeOf_a15 f x k15)), some (.inl (f (18 + 4 * x.toInt.toNat) 3)), some (.inl (Int32.ofNat k15)), some (.inl (if (f (18 + 4 * k15) 3).toInt = (f (18 + 4 * x.toInt.toNat) 3).toInt then (if (Int32.ofNat k15).toInt < x.toInt then (1 : Int32) else (0 : Int32)) else (0 : Int32)))]) (st' := [.inl (if (f (18 + 4 * k15) 3).toInt = (f (18 + 4 * x.toInt.toNat) 3).toInt then (if (Int32.ofNat k15).toInt < x.toInt then (1 : Int32) else (0 : Int32)) else (0 : Int32)), .inl (c0_placeOf_a15 f x k15)]) (m' := (f, l)) rfl rfl (fl_bo rfl) rfl ?_
    have hj115 : fl_Tq (pw_P L xs) 47 76 [some (.inr (.inr (.inl (1, 1)))), some (.inl x), some (.inl (c0_placeOf_a15 f x k15)), some (.inl (f (18 + 4 * x.toInt.toNat) 3)), some (.inl (Int32.ofNat k15)), some (.inl (if (f (18 + 4 * k15) 3).toInt = (f (18 + 4 * x.toInt.toNat) 3).toInt then (if (Int32.ofNat k15).toInt < x.toInt then (1 : Int32) else (0 : Int32)) else (0 : Int32)))] [.inl (if (if (f (18 + 4 * k15) 3).toInt = (f (18 + 4 * x.toInt.toNat) 3).toInt then (if (Int32.ofNat k15).toInt < x.toInt then (1 : Int32) else (0 : Int32)) else (0 : Int32)).toInt = 0 then (if (f (18 + 4 * x.toInt.toNat) 3).toInt < (f (18 + 4 * k15) 3).toInt then (1 : Int32) else (0 : Int32)) else (1 : Int32)), .inl (c0_placeOf_a15 f x k15)] (f, l) Q → fl_Tq (pw_P L xs) 47 54 [some (.inr (.inr (.inl (1, 1)))), some (.inl x), some (.inl (c0_placeOf_a15 f x k15)), some (.inl (f (18 + 4 * x.toInt.toNat) 3)), some (.inl (Int32.ofNat k15)), some (.inl (if (f (18 + 4 * k15) 3).toInt = (f (18 + 4 * x.toInt.toNat) 3).toInt then (if (Int32.ofNat k15).toInt < x.toInt then (1 : Int32) else (0 : Int32)) else (0 : Int32)))] [.inl (if (f (18 + 4 * k15) 3).toInt = (f (18 + 4 * x.toInt.toNat) 3).toInt then (if (Int32.ofNat k15).toInt < x.toInt then (1 : Int32) else (0 : Int32)) else (0 : Int32)), .inl (c0_placeOf_a15 f x k15)] (f, l) Q := by
      intro hJ
      by_cases h3 : (if (f (18 + 4 * k15) 3).toInt = (f (18 + 4 * x.toInt.toNat) 3).toInt then (if (Int32.ofNat k15).toInt < x.toInt then (1 : Int32) else (0 : Int32)) else (0 : Int32)).toInt = 0
      · refine fl_Tq.zf rfl (fl_bo rfl) (c1_ne_f h3) rfl ?_
        refine fl_Tq.stp (pc' := 58) (lv' := [some (.inr (.inr (.inl (1, 1)))), some (.inl x), some (.inl (c0_placeOf_a15 f x k15)), some (.inl (f (18 + 4 * x.toInt.toNat) 3)), some (.inl (Int32.ofNat k15)), some (.inl (if (f (18 + 4 * k15) 3).toInt = (f (18 + 4 * x.toInt.toNat) 3).toInt then (if (Int32.ofNat k15).toInt < x.toInt then (1 : Int32) else (0 : Int32)) else (0 : Int32)))]) (st' := [.inr (.inr (.inl (1, 1))), .inl (c0_placeOf_a15 f x k15)]) (m' := (f, l)) rfl rfl (fl_bo rfl) rfl ?_
        refine fl_Tq.stp (pc' := 61) (lv' := [some (.inr (.inr (.inl (1, 1)))), some (.inl x), some (.inl (c0_placeOf_a15 f x k15)), some (.inl (f (18 + 4 * x.toInt.toNat) 3)), some (.inl (Int32.ofNat k15)), some (.inl (if (f (18 + 4 * k15) 3).toInt = (f (18 + 4 * x.toInt.toNat) 3).toInt then (if (Int32.ofNat k15).toInt < x.toInt then (1 : Int32) else (0 : Int32)) else (0 : Int32)))]) (st' := [.inr (.inr (.inl (2, 2))), .inl (c0_placeOf_a15 f x k15)]) (m' := (f, l)) rfl rfl (fl_bo rfl) rfl ?_
        refine fl_Tq.stp (pc' := 63) (lv' := [some (.inr (.inr (.inl (1, 1)))), some (.inl x), some (.inl (c0_placeOf_a15 f x k15)), some (.inl (f (18 + 4 * x.toInt.toNat) 3)), some (.inl (Int32.ofNat k15)), some (.inl (if (f (18 + 4 * k15) 3).toInt = (f (18 + 4 * x.toInt.toNat) 3).toInt then (if (Int32.ofNat k15).toInt < x.toInt then (1 : Int32) else (0 : Int32)) else (0 : Int32)))]) (st' := [.inl (Int32.ofNat k15), .inr (.inr (.inl (2, 2))), .inl (c0_placeOf_a15 f x k15)]) (m' := (f, l)) rfl rfl (fl_bo rfl) rfl ?_
        refine fl_Tq.qld (p := 2) (τ := 2) (n := 16) (t := 18) (b := 16) (d := 3) (k := k15) rfl (fl_bo rfl) rfl (at_ofN (by omega)) (by omega) ?_
        show fl_Tq _ 47 64 [some (.inr (.inr (.inl (1, 1)))), some (.inl x), some (.inl (c0_placeOf_a15 f x k15)), some (.inl (f (18 + 4 * x.toInt.toNat) 3)), some (.inl (Int32.ofNat k15)), some (.inl (if (f (18 + 4 * k15) 3).toInt = (f (18 + 4 * x.toInt.toNat) 3).toInt then (if (Int32.ofNat k15).toInt < x.toInt then (1 : Int32) else (0 : Int32)) else (0 : Int32)))] [.inr (.inr (.inl (18, 18 + 4 * k15))), .inl (c0_placeOf_a15 f x k15)] (f, l) _
        refine fl_Tq.gfV (k := 3) (v := f (18 + 4 * k15) 3) rfl (fl_oks_ok ⟨(t2_kc0 (by omega)), True.intro, True.intro⟩) rfl rfl ?_
        refine fl_Tq.stp (pc' := 68) (lv' := [some (.inr (.inr (.inl (1, 1)))), some (.inl x), some (.inl (c0_placeOf_a15 f x k15)), some (.inl (f (18 + 4 * x.toInt.toNat) 3)), some (.inl (Int32.ofNat k15)), some (.inl (if (f (18 + 4 * k15) 3).toInt = (f (18 + 4 * x.toInt.toNat) 3).toInt then (if (Int32.ofNat k15).toInt < x.toInt then (1 : Int32) else (0 : Int32)) else (0 : Int32)))]) (st' := [.inl (f (18 + 4 * x.toInt.toNat) 3), .inl (f (18 + 4 * k15) 3), .inl (c0_placeOf_a15 f x k15)]) (m' := (f, l)) rfl rfl (fl_bo rfl) rfl ?_
        by_cases h4 : (f (18 + 4 * x.toInt.toNat) 3).toInt < (f (18 + 4 * k15) 3).toInt
        · refine fl_Tq.jf rfl (fl_bo rfl) (c2_le_f h4) rfl ?_
          refine fl_Tq.cI (c := (1 : Int32)) rfl (by decide +kernel) (fl_bo rfl) ?_
          refine fl_Tq.stp (pc' := 76) (lv' := [some (.inr (.inr (.inl (1, 1)))), some (.inl x), some (.inl (c0_placeOf_a15 f x k15)), some (.inl (f (18 + 4 * x.toInt.toNat) 3)), some (.inl (Int32.ofNat k15)), some (.inl (if (f (18 + 4 * k15) 3).toInt = (f (18 + 4 * x.toInt.toNat) 3).toInt then (if (Int32.ofNat k15).toInt < x.toInt then (1 : Int32) else (0 : Int32)) else (0 : Int32)))]) (st' := [.inl (1 : Int32), .inl (c0_placeOf_a15 f x k15)]) (m' := (f, l)) rfl rfl (fl_bo rfl) rfl ?_
          have e0 : (if (if (f (18 + 4 * k15) 3).toInt = (f (18 + 4 * x.toInt.toNat) 3).toInt then (if (Int32.ofNat k15).toInt < x.toInt then (1 : Int32) else (0 : Int32)) else (0 : Int32)).toInt = 0 then (if (f (18 + 4 * x.toInt.toNat) 3).toInt < (f (18 + 4 * k15) 3).toInt then (1 : Int32) else (0 : Int32)) else (1 : Int32)) = (1 : Int32) := by simp only [if_pos h3, if_pos h4]
          rw [e0] at hJ
          exact hJ
        · refine fl_Tq.jt rfl (fl_bo rfl) (c2_le_t h4) rfl ?_
          refine fl_Tq.cI (c := (0 : Int32)) rfl (by decide +kernel) (fl_bo rfl) ?_
          have e0 : (if (if (f (18 + 4 * k15) 3).toInt = (f (18 + 4 * x.toInt.toNat) 3).toInt then (if (Int32.ofNat k15).toInt < x.toInt then (1 : Int32) else (0 : Int32)) else (0 : Int32)).toInt = 0 then (if (f (18 + 4 * x.toInt.toNat) 3).toInt < (f (18 + 4 * k15) 3).toInt then (1 : Int32) else (0 : Int32)) else (1 : Int32)) = (0 : Int32) := by simp only [if_pos h3, if_neg h4]
          rw [e0] at hJ
          exact hJ
      · refine fl_Tq.zt rfl (fl_bo rfl) (c1_ne_t h3) rfl ?_
        refine fl_Tq.cI (c := (1 : Int32)) rfl (by decide +kernel) (fl_bo rfl) ?_
        refine fl_Tq.stp (pc' := 76) (lv' := [some (.inr (.inr (.inl (1, 1)))), some (.inl x), some (.inl (c0_placeOf_a15 f x k15)), some (.inl (f (18 + 4 * x.toInt.toNat) 3)), some (.inl (Int32.ofNat k15)), some (.inl (if (f (18 + 4 * k15) 3).toInt = (f (18 + 4 * x.toInt.toNat) 3).toInt then (if (Int32.ofNat k15).toInt < x.toInt then (1 : Int32) else (0 : Int32)) else (0 : Int32)))]) (st' := [.inl (1 : Int32), .inl (c0_placeOf_a15 f x k15)]) (m' := (f, l)) rfl rfl (fl_bo rfl) rfl ?_
        have e0 : (if (if (f (18 + 4 * k15) 3).toInt = (f (18 + 4 * x.toInt.toNat) 3).toInt then (if (Int32.ofNat k15).toInt < x.toInt then (1 : Int32) else (0 : Int32)) else (0 : Int32)).toInt = 0 then (if (f (18 + 4 * x.toInt.toNat) 3).toInt < (f (18 + 4 * k15) 3).toInt then (1 : Int32) else (0 : Int32)) else (1 : Int32)) = (1 : Int32) := by simp only [if_neg h3]
        rw [e0] at hJ
        exact hJ
    refine hj115 ?_
    show fl_Tq _ 47 76 [some (.inr (.inr (.inl (1, 1)))), some (.inl x), some (.inl (c0_placeOf_a15 f x k15)), some (.inl (f (18 + 4 * x.toInt.toNat) 3)), some (.inl (Int32.ofNat k15)), some (.inl (if (f (18 + 4 * k15) 3).toInt = (f (18 + 4 * x.toInt.toNat) 3).toInt then (if (Int32.ofNat k15).toInt < x.toInt then (1 : Int32) else (0 : Int32)) else (0 : Int32)))] [.inl (if (if (f (18 + 4 * k15) 3).toInt = (f (18 + 4 * x.toInt.toNat) 3).toInt then (if (Int32.ofNat k15).toInt < x.toInt then (1 : Int32) else (0 : Int32)) else (0 : Int32)).toInt = 0 then (if (f (18 + 4 * x.toInt.toNat) 3).toInt < (f (18 + 4 * k15) 3).toInt then (1 : Int32) else (0 : Int32)) else (1 : Int32)), .inl (c0_placeOf_a15 f x k15)] (f, l) _
    refine fl_Tq.stp (pc' := 77) (lv' := [some (.inr (.inr (.inl (1, 1)))), some (.inl x), some (.inl (c0_placeOf_a15 f x k15)), some (.inl (f (18 + 4 * x.toInt.toNat) 3)), some (.inl (Int32.ofNat k15)), some (.inl (if (f (18 + 4 * k15) 3).toInt = (f (18 + 4 * x.toInt.toNat) 3).toInt then (if (Int32.ofNat k15).toInt < x.toInt then (1 : Int32) else (0 : Int32)) else (0 : Int32)))]) (st' := [.inl ((c0_placeOf_a15 f x k15) + (if (if (f (18 + 4 * k15) 3).toInt = (f (18 + 4 * x.toInt.toNat) 3).toInt then (if (Int32.ofNat k15).toInt < x.toInt then (1 : Int32) else (0 : Int32)) else (0 : Int32)).toInt = 0 then (if (f (18 + 4 * x.toInt.toNat) 3).toInt < (f (18 + 4 * k15) 3).toInt then (1 : Int32) else (0 : Int32)) else (1 : Int32)))]) (m' := (f, l)) rfl rfl (fl_bo rfl) rfl ?_
    refine fl_Tq.stp (pc' := 78) (lv' := [some (.inr (.inr (.inl (1, 1)))), some (.inl x), some (.inl ((c0_placeOf_a15 f x k15) + (if (if (f (18 + 4 * k15) 3).toInt = (f (18 + 4 * x.toInt.toNat) 3).toInt then (if (Int32.ofNat k15).toInt < x.toInt then (1 : Int32) else (0 : Int32)) else (0 : Int32)).toInt = 0 then (if (f (18 + 4 * x.toInt.toNat) 3).toInt < (f (18 + 4 * k15) 3).toInt then (1 : Int32) else (0 : Int32)) else (1 : Int32)))), some (.inl (f (18 + 4 * x.toInt.toNat) 3)), some (.inl (Int32.ofNat k15)), some (.inl (if (f (18 + 4 * k15) 3).toInt = (f (18 + 4 * x.toInt.toNat) 3).toInt then (if (Int32.ofNat k15).toInt < x.toInt then (1 : Int32) else (0 : Int32)) else (0 : Int32)))]) (st' := []) (m' := (f, l)) rfl rfl (fl_bo rfl) rfl ?_
    refine fl_Tq.stp (pc' := 81) (lv' := [some (.inr (.inr (.inl (1, 1)))), some (.inl x), some (.inl ((c0_placeOf_a15 f x k15) + (if (if (f (18 + 4 * k15) 3).toInt = (f (18 + 4 * x.toInt.toNat) 3).toInt then (if (Int32.ofNat k15).toInt < x.toInt then (1 : Int32) else (0 : Int32)) else (0 : Int32)).toInt = 0 then (if (f (18 + 4 * x.toInt.toNat) 3).toInt < (f (18 + 4 * k15) 3).toInt then (1 : Int32) else (0 : Int32)) else (1 : Int32)))), some (.inl (f (18 + 4 * x.toInt.toNat) 3)), some (.inl ((Int32.ofNat k15) + (1 : Int32))), some (.inl (if (f (18 + 4 * k15) 3).toInt = (f (18 + 4 * x.toInt.toNat) 3).toInt then (if (Int32.ofNat k15).toInt < x.toInt then (1 : Int32) else (0 : Int32)) else (0 : Int32)))]) (st' := []) (m' := (f, l)) rfl rfl (fl_bo rfl) rfl ?_
    refine fl_Tq.stp (pc' := 15) (lv' := [some (.inr (.inr (.inl (1, 1)))), some (.inl x), some (.inl ((c0_placeOf_a15 f x k15) + (if (if (f (18 + 4 * k15) 3).toInt = (f (18 + 4 * x.toInt.toNat) 3).toInt then (if (Int32.ofNat k15).toInt < x.toInt then (1 : Int32) else (0 : Int32)) else (0 : Int32)).toInt = 0 then (if (f (18 + 4 * x.toInt.toNat) 3).toInt < (f (18 + 4 * k15) 3).toInt then (1 : Int32) else (0 : Int32)) else (1 : Int32)))), some (.inl (f (18 + 4 * x.toInt.toNat) 3)), some (.inl ((Int32.ofNat k15) + (1 : Int32))), some (.inl (if (f (18 + 4 * k15) 3).toInt = (f (18 + 4 * x.toInt.toNat) 3).toInt then (if (Int32.ofNat k15).toInt < x.toInt then (1 : Int32) else (0 : Int32)) else (0 : Int32)))]) (st' := []) (m' := (f, l)) rfl rfl (fl_bo rfl) rfl ?_
    have ea : c0_placeOf_a15 f x (k15 + 1) = (c0_placeOf_a15 f x k15) + (if (if (f (18 + 4 * k15) 3).toInt = (f (18 + 4 * x.toInt.toNat) 3).toInt then (if (Int32.ofNat k15).toInt < x.toInt then (1 : Int32) else (0 : Int32)) else (0 : Int32)).toInt = 0 then (if (f (18 + 4 * x.toInt.toNat) 3).toInt < (f (18 + 4 * k15) 3).toInt then (1 : Int32) else (0 : Int32)) else (1 : Int32)) := by
      show ((c0_placeOf_a15 f x k15) + (if (if (f (18 + 4 * k15) 3).toInt = (f (18 + 4 * x.toInt.toNat) 3).toInt then (if (Int32.ofNat k15).toInt < x.toInt then (1 : Int32) else (0 : Int32)) else (0 : Int32)).toInt = 0 then (if (f (18 + 4 * x.toInt.toNat) 3).toInt < (f (18 + 4 * k15) 3).toInt then (1 : Int32) else (0 : Int32)) else (1 : Int32))) = _
      rfl
    rw [ea, ← t2_k1] at hS
    exact fl_Tq.fg hS ⟨rfl, rfl, rfl, rfl, rfl, True.intro⟩
  refine t2_for (S := fun k15 => fl_Tq (pw_P L xs) 47 15 [some (.inr (.inr (.inl (1, 1)))), some (.inl x), some (.inl (c0_placeOf_a15 f x k15)), some (.inl (f (18 + 4 * x.toInt.toNat) 3)), some (.inl (Int32.ofNat k15)), none] [] (f, l) Q) hs15 ?_
  show fl_Tq (pw_P L xs) 47 15 [some (.inr (.inr (.inl (1, 1)))), some (.inl x), some (.inl (c0_placeOf_a15 f x ((f 1 5).toInt.toNat))), some (.inl (f (18 + 4 * x.toInt.toNat) 3)), some (.inl (Int32.ofNat ((f 1 5).toInt.toNat))), none] [] (f, l) _
  refine fl_Tq.stp (pc' := 17) (lv' := [some (.inr (.inr (.inl (1, 1)))), some (.inl x), some (.inl (c0_placeOf_a15 f x ((f 1 5).toInt.toNat))), some (.inl (f (18 + 4 * x.toInt.toNat) 3)), some (.inl (Int32.ofNat ((f 1 5).toInt.toNat))), none]) (st' := [.inl (Int32.ofNat ((f 1 5).toInt.toNat))]) (m' := (f, l)) rfl rfl (fl_bo rfl) rfl ?_
  refine fl_Tq.stp (pc' := 18) (lv' := [some (.inr (.inr (.inl (1, 1)))), some (.inl x), some (.inl (c0_placeOf_a15 f x ((f 1 5).toInt.toNat))), some (.inl (f (18 + 4 * x.toInt.toNat) 3)), some (.inl (Int32.ofNat ((f 1 5).toInt.toNat))), none]) (st' := [.inr (.inr (.inl (1, 1))), .inl (Int32.ofNat ((f 1 5).toInt.toNat))]) (m' := (f, l)) rfl rfl (fl_bo rfl) rfl ?_
  refine fl_Tq.gfV (k := 5) (v := f 1 5) rfl (fl_bo rfl) rfl rfl ?_
  refine fl_Tq.jt rfl (fl_bo rfl) (c2_ge_t (t2_ln (t2_nn hc.1))) rfl ?_
  refine fl_Tq.stp (pc' := 85) (lv' := [some (.inr (.inr (.inl (1, 1)))), some (.inl x), some (.inl (c0_placeOf_a15 f x ((f 1 5).toInt.toNat))), some (.inl (f (18 + 4 * x.toInt.toNat) 3)), some (.inl (Int32.ofNat ((f 1 5).toInt.toNat))), none]) (st' := [.inl (c0_placeOf_a15 f x ((f 1 5).toInt.toNat))]) (m' := (f, l)) rfl rfl (fl_bo rfl) rfl ?_
  exact fl_Tq.ret rfl rfl rfl k
noncomputable def c0_rankedCell_e2 (f : t2_F) (x : Int32) : Nat → Option Int32
  | 0 => none
  | k2 + 1 => match c0_rankedCell_e2 f x k2 with
    | some r => some r
    | none => if (c0_placeOf_v f (Int32.ofNat k2)).toInt = x.toInt then some (Int32.ofNat k2) else none
noncomputable def c0_rankedCell_v (f : t2_F) (x : Int32) : Int32 := match c0_rankedCell_e2 f x ((f 1 5).toInt.toNat) with | some r => r | none => (-1 : Int32)
theorem c0_rankedCell_q {L : Nat} {xs : Nat → Int32} {f : t2_F} {l : t2_L} {Q : Option fl_V → fl_M → Prop} {x : Int32} (hc : 0 ≤ (f 1 5).toInt ∧ (f 1 5).toInt ≤ 16) (k : Q (some (.inl (c0_rankedCell_v f x))) (f, l)) : fl_Tq (pw_P L xs) 46 0 (fl_args (am_mxl (pw_P L xs) 46) [.inr (.inr (.inl (1, 1))), .inl x]) [] (f, l) Q := by
  refine fl_Tq.cI (c := (0 : Int32)) rfl (by decide +kernel) (fl_bo rfl) ?_
  refine fl_Tq.stp (pc' := 2) (lv' := [some (.inr (.inr (.inl (1, 1)))), some (.inl x), some (.inl (0 : Int32))]) (st' := []) (m' := (f, l)) rfl rfl (fl_bo rfl) rfl ?_
  have hm2 : ∀ (k : Nat) (r : Int32), c0_rankedCell_e2 f x k = some r → c0_rankedCell_e2 f x (k + 1) = some r := fun k r e => by
    unfold c0_rankedCell_e2
    rw [e]
  have hs2 : ∀ k2 : Nat, k2 < (f 1 5).toInt.toNat → c0_rankedCell_e2 f x k2 = none → (c0_rankedCell_e2 f x (k2 + 1) = none → fl_Tq (pw_P L xs) 46 2 [some (.inr (.inr (.inl (1, 1)))), some (.inl x), some (.inl (Int32.ofNat (k2 + 1)))] [] (f, l) Q) → fl_Tq (pw_P L xs) 46 2 [some (.inr (.inr (.inl (1, 1)))), some (.inl x), some (.inl (Int32.ofNat k2))] [] (f, l) Q := by
    intro k2 hk2 he hS
    refine fl_Tq.stp (pc' := 3) (lv' := [some (.inr (.inr (.inl (1, 1)))), some (.inl x), some (.inl (Int32.ofNat k2))]) (st' := [.inl (Int32.ofNat k2)]) (m' := (f, l)) rfl rfl (fl_bo rfl) rfl ?_
    refine fl_Tq.stp (pc' := 4) (lv' := [some (.inr (.inr (.inl (1, 1)))), some (.inl x), some (.inl (Int32.ofNat k2))]) (st' := [.inr (.inr (.inl (1, 1))), .inl (Int32.ofNat k2)]) (m' := (f, l)) rfl rfl (fl_bo rfl) rfl ?_
    refine fl_Tq.gfV (k := 5) (v := f 1 5) rfl (fl_bo rfl) rfl rfl ?_
    refine fl_Tq.jf rfl (fl_bo rfl) (c2_ge_f (t2_lk hk2 (t2_nn hc.1))) rfl ?_
    refine fl_Tq.stp (pc' := 11) (lv' := [some (.inr (.inr (.inl (1, 1)))), some (.inl x), some (.inl (Int32.ofNat k2))]) (st' := [.inr (.inr (.inl (1, 1)))]) (m' := (f, l)) rfl rfl (fl_bo rfl) rfl ?_
    refine fl_Tq.stp (pc' := 12) (lv' := [some (.inr (.inr (.inl (1, 1)))), some (.inl x), some (.inl (Int32.ofNat k2))]) (st' := [.inl (Int32.ofNat k2), .inr (.inr (.inl (1, 1)))]) (m' := (f, l)) rfl rfl (fl_bo rfl) rfl ?_
    refine fl_Tq.cal rfl rfl (fl_bo rfl) rfl ?_
    refine c0_placeOf_q hc (by have e := at_ofN (k := k2) (by omega); omega) ?_
    show fl_Tq _ 46 15 [some (.inr (.inr (.inl (1, 1)))), some (.inl x), some (.inl (Int32.ofNat k2))] [.inl (c0_placeOf_v f (Int32.ofNat k2))] (f, l) _
    refine fl_Tq.stp (pc' := 16) (lv' := [some (.inr (.inr (.inl (1, 1)))), some (.inl x), some (.inl (Int32.ofNat k2))]) (st' := [.inl x, .inl (c0_placeOf_v f (Int32.ofNat k2))]) (m' := (f, l)) rfl rfl (fl_bo rfl) rfl ?_
    by_cases h1 : (c0_placeOf_v f (Int32.ofNat k2)).toInt = x.toInt
    · refine fl_Tq.jf rfl (fl_bo rfl) (c2_ne_f h1) rfl ?_
      refine fl_Tq.stp (pc' := 20) (lv' := [some (.inr (.inr (.inl (1, 1)))), some (.inl x), some (.inl (Int32.ofNat k2))]) (st' := [.inl (Int32.ofNat k2)]) (m' := (f, l)) rfl rfl (fl_bo rfl) rfl ?_
      have ee : c0_rankedCell_e2 f x (k2 + 1) = some (Int32.ofNat k2) := by
        unfold c0_rankedCell_e2
        rw [he]
        simp only [if_pos h1]
      have en : c0_rankedCell_e2 f x ((f 1 5).toInt.toNat) = some (Int32.ofNat k2) := t2_Em hm2 ee (by omega)
      refine fl_Tq.ret rfl rfl rfl ?_
      unfold c0_rankedCell_v at k
      simp only [en] at k
      exact k
    · refine fl_Tq.jt rfl (fl_bo rfl) (c2_ne_t h1) rfl ?_
      refine fl_Tq.stp (pc' := 24) (lv' := [some (.inr (.inr (.inl (1, 1)))), some (.inl x), some (.inl ((Int32.ofNat k2) + (1 : Int32)))]) (st' := []) (m' := (f, l)) rfl rfl (fl_bo rfl) rfl ?_
      refine fl_Tq.stp (pc' := 2) (lv' := [some (.inr (.inr (.inl (1, 1)))), some (.inl x), some (.inl ((Int32.ofNat k2) + (1 : Int32)))]) (st' := []) (m' := (f, l)) rfl rfl (fl_bo rfl) rfl ?_
      have ee : c0_rankedCell_e2 f x (k2 + 1) = none := by
        unfold c0_rankedCell_e2
        rw [he]
        simp only [if_neg h1]
      have hS := hS ee
      rw [← t2_k1] at hS
      exact hS
  refine t2_forE (E := c0_rankedCell_e2 f x) (S := fun k2 => fl_Tq (pw_P L xs) 46 2 [some (.inr (.inr (.inl (1, 1)))), some (.inl x), some (.inl (Int32.ofNat k2))] [] (f, l) Q) hs2 rfl (fun en2 => ?_)
  show fl_Tq (pw_P L xs) 46 2 [some (.inr (.inr (.inl (1, 1)))), some (.inl x), some (.inl (Int32.ofNat ((f 1 5).toInt.toNat)))] [] (f, l) _
  refine fl_Tq.stp (pc' := 3) (lv' := [some (.inr (.inr (.inl (1, 1)))), some (.inl x), some (.inl (Int32.ofNat ((f 1 5).toInt.toNat)))]) (st' := [.inl (Int32.ofNat ((f 1 5).toInt.toNat))]) (m' := (f, l)) rfl rfl (fl_bo rfl) rfl ?_
  refine fl_Tq.stp (pc' := 4) (lv' := [some (.inr (.inr (.inl (1, 1)))), some (.inl x), some (.inl (Int32.ofNat ((f 1 5).toInt.toNat)))]) (st' := [.inr (.inr (.inl (1, 1))), .inl (Int32.ofNat ((f 1 5).toInt.toNat))]) (m' := (f, l)) rfl rfl (fl_bo rfl) rfl ?_
  refine fl_Tq.gfV (k := 5) (v := f 1 5) rfl (fl_bo rfl) rfl rfl ?_
  refine fl_Tq.jt rfl (fl_bo rfl) (c2_ge_t (t2_ln (t2_nn hc.1))) rfl ?_
  refine fl_Tq.cI (c := (-1 : Int32)) rfl (by decide +kernel) (fl_bo rfl) ?_
  refine fl_Tq.ret rfl rfl rfl ?_
  unfold c0_rankedCell_v at k
  simp only [en2] at k
  exact k

end

/-! 94.00.bits.lean.txt -/
section
/-! ===== bits ===== -/
def t2_bt (b : Int32) (j : Nat) : Bool := b.toBitVec.getLsbD j
theorem t2_shn : ∀ j : Fin 32, ((Int32.ofNat j.val &&& 31).toBitVec.smod 32).toNat = j.val := by decide +kernel
theorem t2_one : ∀ c : Fin 32, ((1 : Int32) <<< (Int32.ofNat c.val &&& 31)).toBitVec = 1#32 <<< c.val := by decide +kernel
theorem t2_and1 (z : Int32) : z &&& 1 = if z.toBitVec.getLsbD 0 = true then 1 else 0 := by
  apply Int32.toBitVec_inj.mp
  show z.toBitVec &&& 1#32 = _
  rw [BitVec.and_one_eq_setWidth_ofBool_getLsbD]
  cases z.toBitVec.getLsbD 0 <;> rfl
theorem t2_bit {b : Int32} {j : Nat} (hj : j < 32) : (b >>> (Int32.ofNat j &&& 31)) &&& 1 = if t2_bt b j = true then 1 else 0 := by
  have e : (b >>> (Int32.ofNat j &&& 31)).toBitVec.getLsbD 0 = b.toBitVec.getLsbD j := by
    show (b.toBitVec.sshiftRight (((Int32.ofNat j &&& 31).toBitVec.smod 32).toNat)).getLsbD 0 = _
    rw [t2_shn ⟨j, hj⟩, BitVec.getLsbD_sshiftRight, Nat.add_zero, if_pos hj]
    rfl
  rw [t2_and1, e]
  rfl
theorem t2_bit0 {b : Int32} {j : Nat} (hj : j < 32) : ((b >>> (Int32.ofNat j &&& 31)) &&& 1).toInt = 0 ↔ t2_bt b j = false := by
  rw [t2_bit hj]
  cases t2_bt b j
  · exact ⟨fun _ => rfl, fun _ => rfl⟩
  · exact ⟨fun h => absurd h (by decide), fun h => by cases h⟩
theorem t2_has {b : Int32} {j : Nat} (hj : j < 32) : r_has_v b (Int32.ofNat j) = if t2_bt b j = true then 1 else 0 := by
  unfold r_has_v
  rw [t2_bit hj]
  cases t2_bt b j
  · rfl
  · rfl
theorem t2_has0 {b : Int32} {j : Nat} (hj : j < 32) : (r_has_v b (Int32.ofNat j)).toInt = 0 ↔ t2_bt b j = false := by
  rw [t2_has hj]
  cases t2_bt b j
  · exact ⟨fun _ => rfl, fun _ => rfl⟩
  · exact ⟨fun h => absurd h (by decide), fun h => by cases h⟩
theorem t2_bs {i c : Nat} (hi : i < 32) : (1#32 <<< c).getLsbD i = decide (i = c) := by
  rw [BitVec.getLsbD_shiftLeft, BitVec.getLsbD_one]
  by_cases e : i = c
  · subst e
    simp [hi]
  · by_cases l : i < c
    · simp [l, e]
    · have : ¬ i - c = 0 := by omega
      simp [this, e]
theorem t2_bor {b : Int32} {c j : Nat} (hc : c < 32) (hj : j < 32) : t2_bt (b ||| ((1 : Int32) <<< (Int32.ofNat c &&& 31))) j = (t2_bt b j || decide (j = c)) := by
  show (b.toBitVec ||| ((1 : Int32) <<< (Int32.ofNat c &&& 31)).toBitVec).getLsbD j = _
  rw [t2_one ⟨c, hc⟩, BitVec.getLsbD_or, t2_bs hj]
  rfl
theorem t2_anb {x : Int32} {c : Nat} (hc : c < 32) : (x &&& ((1 : Int32) <<< (Int32.ofNat c &&& 31))).toInt = 0 ↔ t2_bt x c = false := by
  have k : (x &&& ((1 : Int32) <<< (Int32.ofNat c &&& 31))).toBitVec = x.toBitVec &&& (1#32 <<< c) := by
    rw [← t2_one ⟨c, hc⟩]
    rfl
  constructor
  · intro h
    have e : x &&& ((1 : Int32) <<< (Int32.ofNat c &&& 31)) = 0 := Int32.toInt.inj h
    have e2 : (x &&& ((1 : Int32) <<< (Int32.ofNat c &&& 31))).toBitVec.getLsbD c = (0 : Int32).toBitVec.getLsbD c := congrArg (fun z : Int32 => z.toBitVec.getLsbD c) e
    rw [k, BitVec.getLsbD_and, t2_bs hc, decide_eq_true rfl, Bool.and_true] at e2
    exact e2.trans (BitVec.getLsbD_zero (w := 32))
  · intro h
    have e : x &&& ((1 : Int32) <<< (Int32.ofNat c &&& 31)) = 0 := by
      apply Int32.toBitVec_inj.mp
      rw [k]
      apply BitVec.eq_of_getLsbD_eq
      intro i hi
      rw [BitVec.getLsbD_and, t2_bs hi]
      by_cases e : i = c
      · subst e
        have h : x.toBitVec.getLsbD i = false := h
        rw [h, Bool.false_and]
        exact (BitVec.getLsbD_zero).symm
      · rw [decide_eq_false e, Bool.and_false]
        exact (BitVec.getLsbD_zero).symm
    rw [e]
    rfl
theorem t2_bt0 {j : Nat} : t2_bt 0 j = false := BitVec.getLsbD_zero
/-- two numbers are the same if the bits are -/
theorem t2_bext {x y : Int32} (h : ∀ j : Nat, j < 32 → t2_bt x j = t2_bt y j) : x = y := by
  apply Int32.toBitVec_inj.mp
  exact BitVec.eq_of_getLsbD_eq (fun i hi => h i hi)

end

/-! 94.01.rshut.lean.txt -/
section
/-! ===== the reference: hold, shuttle by words ===== -/
section RSHUT
variable {f : t2_F} {C : Nat} {c : Int32}
theorem r_hld_1 : r_hold_m f c C 280 (444 + 61 * C + 1) = r_held_v (f 280 (444 + 61 * C + 1)) (0 : Int32) ((3600 : Int32) * f 280 (444 + 61 * C + 0)) := by
  unfold r_hold_m r_full_v
  rw [fl_row_self, upd_ne (by omega), upd_self]
theorem r_hld_4 : r_hold_m f c C 280 (444 + 61 * C + 4) = r_held_v (f 280 (444 + 61 * C + 4)) (0 : Int32) ((3600 : Int32) * f 280 (444 + 61 * C + 0)) := by
  unfold r_hold_m r_full_v
  rw [fl_row_self, upd_self, fl_row_self, upd_ne (by omega)]
theorem r_hld_o {w : Nat} (h1 : w ≠ 444 + 61 * C + 1) (h4 : w ≠ 444 + 61 * C + 4) : r_hold_m f c C 280 w = f 280 w := by
  unfold r_hold_m
  rw [fl_row_self, upd_ne h4, upd_ne h1]
theorem r_hld_p {p : Nat} (h : p ≠ 280) : r_hold_m f c C p = f p := by
  unfold r_hold_m
  rw [fl_row_ne h]
noncomputable def r_sh (f : t2_F) (cA cB : Int32) (A B : Nat) : t2_F := fl_row (r_hold_m (r_hold_m (fl_row f 280 (upd (upd (upd (upd (f 280) (444 + 61 * A + 1) ((f 280 (444 + 61 * A + 1)) - (r_lesser_v (f 280 49) (f 280 (444 + 61 * A + 1))))) (444 + 61 * B + 1) ((f 280 (444 + 61 * B + 1)) + (r_lesser_v (((r_lesser_v (f 280 49) (f 280 (444 + 61 * A + 1))) * (f 280 50)) / (100 : Int32)) (((3600 : Int32) * (f 280 (444 + 61 * B + 0))) - (f 280 (444 + 61 * B + 1)))))) (444 + 61 * A + 4) ((f 280 (444 + 61 * A + 4)) - (r_lesser_v (f 280 49) (f 280 (444 + 61 * A + 1))))) (444 + 61 * B + 4) ((f 280 (444 + 61 * B + 4)) + (r_lesser_v (((r_lesser_v (f 280 49) (f 280 (444 + 61 * A + 1))) * (f 280 50)) / (100 : Int32)) (((3600 : Int32) * (f 280 (444 + 61 * B + 0))) - (f 280 (444 + 61 * B + 1))))))) cA A) cB B) 280 (upd (upd ((r_hold_m (r_hold_m (fl_row f 280 (upd (upd (upd (upd (f 280) (444 + 61 * A + 1) ((f 280 (444 + 61 * A + 1)) - (r_lesser_v (f 280 49) (f 280 (444 + 61 * A + 1))))) (444 + 61 * B + 1) ((f 280 (444 + 61 * B + 1)) + (r_lesser_v (((r_lesser_v (f 280 49) (f 280 (444 + 61 * A + 1))) * (f 280 50)) / (100 : Int32)) (((3600 : Int32) * (f 280 (444 + 61 * B + 0))) - (f 280 (444 + 61 * B + 1)))))) (444 + 61 * A + 4) ((f 280 (444 + 61 * A + 4)) - (r_lesser_v (f 280 49) (f 280 (444 + 61 * A + 1))))) (444 + 61 * B + 4) ((f 280 (444 + 61 * B + 4)) + (r_lesser_v (((r_lesser_v (f 280 49) (f 280 (444 + 61 * A + 1))) * (f 280 50)) / (100 : Int32)) (((3600 : Int32) * (f 280 (444 + 61 * B + 0))) - (f 280 (444 + 61 * B + 1))))))) cA A) cB B) 280) 11 ((f 280 11) + (r_lesser_v (f 280 49) (f 280 (444 + 61 * A + 1))))) 12 ((f 280 12) + ((r_lesser_v (f 280 49) (f 280 (444 + 61 * A + 1))) - (r_lesser_v (((r_lesser_v (f 280 49) (f 280 (444 + 61 * A + 1))) * (f 280 50)) / (100 : Int32)) (((3600 : Int32) * (f 280 (444 + 61 * B + 0))) - (f 280 (444 + 61 * B + 1)))))))
theorem r_shuttle_sh : r_shuttle_m f c C 280 = if (f 280 48).toInt < (r_size_v ((r_partOf_v f c C) - (r_partOf_v f (c + (1 : Int32)) (C + 1)))).toInt then (if 0 < ((r_partOf_v f c C) - (r_partOf_v f (c + (1 : Int32)) (C + 1))).toInt then r_sh f c (c + (1 : Int32)) C (C + 1) 280 else r_sh f (c + (1 : Int32)) c (C + 1) C 280) else f 280 := by
  unfold r_shuttle_m r_sh
  by_cases h1 : (f 280 48).toInt < (r_size_v ((r_partOf_v f c C) - (r_partOf_v f (c + (1 : Int32)) (C + 1)))).toInt
  · rw [if_pos h1, if_pos h1]
    by_cases h2 : 0 < ((r_partOf_v f c C) - (r_partOf_v f (c + (1 : Int32)) (C + 1))).toInt
    · rw [if_pos h2, if_pos h2]
      split
      · split
        · rw [fl_row_ne (by decide : (280 : Nat) ≠ 277)]
        · rw [fl_row_ne (by decide : (280 : Nat) ≠ 277)]
      · rw [fl_row_ne (by decide : (280 : Nat) ≠ 277)]
    · rw [if_neg h2, if_neg h2]
      split
      · split
        · rw [fl_row_ne (by decide : (280 : Nat) ≠ 277)]
        · rw [fl_row_ne (by decide : (280 : Nat) ≠ 277)]
      · rw [fl_row_ne (by decide : (280 : Nat) ≠ 277)]
  · rw [if_neg h1, if_neg h1]
theorem r_sh_w {cA cB : Int32} {A B : Nat} (hAB : A ≠ B) {out inn : Int32} (ho : r_lesser_v (f 280 49) (f 280 (444 + 61 * A + 1)) = out) (hi : r_lesser_v (out * (f 280 50) / (100 : Int32)) (((3600 : Int32) * (f 280 (444 + 61 * B + 0))) - (f 280 (444 + 61 * B + 1))) = inn) :
    (r_sh f cA cB A B 280 (444 + 61 * A + 1) = r_held_v (f 280 (444 + 61 * A + 1) - out) (0 : Int32) ((3600 : Int32) * f 280 (444 + 61 * A + 0)) ∧ r_sh f cA cB A B 280 (444 + 61 * A + 4) = r_held_v (f 280 (444 + 61 * A + 4) - out) (0 : Int32) ((3600 : Int32) * f 280 (444 + 61 * A + 0))) ∧
    (r_sh f cA cB A B 280 (444 + 61 * B + 1) = r_held_v (f 280 (444 + 61 * B + 1) + inn) (0 : Int32) ((3600 : Int32) * f 280 (444 + 61 * B + 0)) ∧ r_sh f cA cB A B 280 (444 + 61 * B + 4) = r_held_v (f 280 (444 + 61 * B + 4) + inn) (0 : Int32) ((3600 : Int32) * f 280 (444 + 61 * B + 0))) ∧
    (∀ w : Nat, w ≠ 11 → w ≠ 12 → w ≠ 444 + 61 * A + 1 → w ≠ 444 + 61 * A + 4 → w ≠ 444 + 61 * B + 1 → w ≠ 444 + 61 * B + 4 → r_sh f cA cB A B 280 w = f 280 w) ∧
    r_sh f cA cB A B 280 11 = f 280 11 + out ∧ r_sh f cA cB A B 280 12 = f 280 12 + (out - inn) := by
  unfold r_sh
  simp only [ho, hi]
  refine ⟨⟨?_, ?_⟩, ⟨?_, ?_⟩, fun w h11 h12 ha1 ha4 hb1 hb4 => ?_, ?_, ?_⟩
  · rw [fl_row_self, upd_ne (by omega), upd_ne (by omega), r_hld_o (by omega) (by omega), r_hld_1]
    simp (disch := omega) only [fl_row_self, upd_self, upd_ne]
  · rw [fl_row_self, upd_ne (by omega), upd_ne (by omega), r_hld_o (by omega) (by omega), r_hld_4]
    simp (disch := omega) only [fl_row_self, upd_self, upd_ne]
  · rw [fl_row_self, upd_ne (by omega), upd_ne (by omega), r_hld_1, r_hld_o (by omega) (by omega), r_hld_o (by omega) (by omega)]
    simp (disch := omega) only [fl_row_self, upd_self, upd_ne]
  · rw [fl_row_self, upd_ne (by omega), upd_ne (by omega), r_hld_4, r_hld_o (by omega) (by omega), r_hld_o (by omega) (by omega)]
    simp (disch := omega) only [fl_row_self, upd_self, upd_ne]
  · rw [fl_row_self, upd_ne h12, upd_ne h11, r_hld_o hb1 hb4, r_hld_o ha1 ha4, fl_row_self, upd_ne hb4, upd_ne ha4, upd_ne hb1, upd_ne ha1]
  · rw [fl_row_self, upd_ne (by decide), upd_self]
  · rw [fl_row_self, upd_self]
end RSHUT

end

/-! 94.02.shut.lean.txt -/
section
/-! ===== block 0: (4) of a second: shuttles ===== -/
section C0SHUT
variable {fc fr F G : t2_F} {C : Nat} {c x : Int32}
theorem c0_tog {f : t2_F} {i : Nat} {x : Int32} : c0_takeOrGive_m f i x (18 + 4 * i) 2 = t2_heldTo_v (f (18 + 4 * i) 2 + x) (0 : Int32) (f (18 + 4 * i) 0 * (3600 : Int32)) ∧
    c0_takeOrGive_m f i x (18 + 4 * i) 3 = t2_partOf_v (c0_takeOrGive_m f i x (18 + 4 * i) 2) (f (18 + 4 * i) 0 * (3600 : Int32)) ∧
    c0_takeOrGive_m f i x (18 + 4 * i) 4 = t2_rb (c0_takeOrGive_m f i x (18 + 4 * i) 3) ∧
    c0_takeOrGive_m f i x (18 + 4 * i) 8 = t2_heldTo_v (f (18 + 4 * i) 8 + x) (0 : Int32) (f (18 + 4 * i) 0 * (3600 : Int32)) ∧
    ∀ j : Nat, j ≠ 2 → j ≠ 3 → j ≠ 4 → j ≠ 8 → c0_takeOrGive_m f i x (18 + 4 * i) j = f (18 + 4 * i) j := by
  unfold c0_takeOrGive_m c0_putReckoned_m c0_putCharge_m
  refine ⟨?_, ?_, ?_, ?_, fun j h2 h3 h4 h8 => ?_⟩ <;> simp (disch := omega) only [fl_row_self, upd_self, upd_ne]
theorem c0_Rc_new (h : c0_Rc fc fr C) (hcap : t2_cap (fc (18 + 4 * C) 0)) (e2 : F (18 + 4 * C) 2 = G 280 (444 + 61 * C + 1)) (e3 : F (18 + 4 * C) 3 = t2_partOf_v (F (18 + 4 * C) 2) (fc (18 + 4 * C) 0 * (3600 : Int32))) (e4 : F (18 + 4 * C) 4 = t2_rb (F (18 + 4 * C) 3)) (e8 : F (18 + 4 * C) 8 = G 280 (444 + 61 * C + 4)) (eo : ∀ j : Nat, j ≠ 2 → j ≠ 3 → j ≠ 4 → j ≠ 8 → F (18 + 4 * C) j = fc (18 + 4 * C) j) (go : ∀ w : Nat, w < 61 → w ≠ 1 → w ≠ 4 → G 280 (444 + 61 * C + w) = fr 280 (444 + 61 * C + w)) : c0_Rc F G C ∧ t2_cap (F (18 + 4 * C) 0) := by
  obtain ⟨⟨h0, h1, h2⟩, ⟨h3, h4⟩, ⟨h5, h6, h7⟩, h8, h9, h18⟩ := h
  have q0 : F (18 + 4 * C) 0 = fc (18 + 4 * C) 0 := eo 0 (by decide) (by decide) (by decide) (by decide)
  have g0 : G 280 (444 + 61 * C + 0) = fr 280 (444 + 61 * C + 0) := go 0 (by decide) (by decide) (by decide)
  have p3 : F (18 + 4 * C) 3 = r_partOf_v G 0 C := by
    unfold r_partOf_v
    rw [g0, ← h0, t2_partAt_eq hcap, e3, e2]
  refine ⟨⟨⟨?_, ?_, e2⟩, ⟨p3, ?_⟩, ⟨?_, ?_, ?_⟩, e8, ?_, ?_⟩, ?_⟩
  · rw [q0, g0, h0]
  · rw [eo 1 (by decide) (by decide) (by decide) (by decide), go 6 (by decide) (by decide) (by decide), h1]
  · rw [e4, p3]
  · rw [eo 5 (by decide) (by decide) (by decide) (by decide), go 2 (by decide) (by decide) (by decide), h5]
  · rw [eo 6 (by decide) (by decide) (by decide) (by decide), go 3 (by decide) (by decide) (by decide), h6]
  · rw [eo 7 (by decide) (by decide) (by decide) (by decide), go 9 (by decide) (by decide) (by decide), h7]
  · rw [eo 9 (by decide) (by decide) (by decide) (by decide), go 5 (by decide) (by decide) (by decide), h9]
  · rw [eo 18 (by decide) (by decide) (by decide) (by decide), go 60 (by decide) (by decide) (by decide), h18]
  · rw [q0]
    exact hcap
/-- a shuttle from the cell A to the cell B: the class -/
noncomputable def c0_sh (f : t2_F) (A B : Nat) : t2_F := fl_row (c0_takeOrGive_m (c0_takeOrGive_m f A (-(t2_min_v (f 4 15) (f (18 + 4 * A) 2)))) B (t2_min_v (((t2_min_v (f 4 15) (f (18 + 4 * A) 2)) * (f 4 16)) / (100 : Int32)) (((f (18 + 4 * B) 0) * (3600 : Int32)) - (f (18 + 4 * B) 2)))) 1 (upd (upd ((c0_takeOrGive_m (c0_takeOrGive_m f A (-(t2_min_v (f 4 15) (f (18 + 4 * A) 2)))) B (t2_min_v (((t2_min_v (f 4 15) (f (18 + 4 * A) 2)) * (f 4 16)) / (100 : Int32)) (((f (18 + 4 * B) 0) * (3600 : Int32)) - (f (18 + 4 * B) 2)))) 1) 14 ((f 1 14) + (t2_min_v (f 4 15) (f (18 + 4 * A) 2)))) 15 ((f 1 15) + ((t2_min_v (f 4 15) (f (18 + 4 * A) 2)) - (t2_min_v (((t2_min_v (f 4 15) (f (18 + 4 * A) 2)) * (f 4 16)) / (100 : Int32)) (((f (18 + 4 * B) 0) * (3600 : Int32)) - (f (18 + 4 * B) 2))))))
theorem c0_shuttle_sh {f : t2_F} {i : Nat} : c0_shuttle_m f i = if (f 4 14).toInt < (t2_abs_v ((f (18 + 4 * i) 3) - (f (18 + 4 * (i + 1)) 3))).toInt then (if (f (18 + 4 * (i + 1)) 3).toInt < (f (18 + 4 * i) 3).toInt then c0_sh f i (i + 1) else c0_sh f (i + 1) i) else f := rfl
theorem c0_sh_w {f : t2_F} {A B : Nat} (hAB : A ≠ B) :
    (c0_sh f A B (18 + 4 * A) 2 = t2_heldTo_v (f (18 + 4 * A) 2 + -(t2_min_v (f 4 15) (f (18 + 4 * A) 2))) (0 : Int32) (f (18 + 4 * A) 0 * (3600 : Int32)) ∧ c0_sh f A B (18 + 4 * A) 3 = t2_partOf_v (c0_sh f A B (18 + 4 * A) 2) (f (18 + 4 * A) 0 * (3600 : Int32)) ∧ c0_sh f A B (18 + 4 * A) 4 = t2_rb (c0_sh f A B (18 + 4 * A) 3) ∧ c0_sh f A B (18 + 4 * A) 8 = t2_heldTo_v (f (18 + 4 * A) 8 + -(t2_min_v (f 4 15) (f (18 + 4 * A) 2))) (0 : Int32) (f (18 + 4 * A) 0 * (3600 : Int32)) ∧ ∀ j : Nat, j ≠ 2 → j ≠ 3 → j ≠ 4 → j ≠ 8 → c0_sh f A B (18 + 4 * A) j = f (18 + 4 * A) j) ∧
    (c0_sh f A B (18 + 4 * B) 2 = t2_heldTo_v (f (18 + 4 * B) 2 + (t2_min_v (((t2_min_v (f 4 15) (f (18 + 4 * A) 2)) * (f 4 16)) / (100 : Int32)) (((f (18 + 4 * B) 0) * (3600 : Int32)) - (f (18 + 4 * B) 2)))) (0 : Int32) (f (18 + 4 * B) 0 * (3600 : Int32)) ∧ c0_sh f A B (18 + 4 * B) 3 = t2_partOf_v (c0_sh f A B (18 + 4 * B) 2) (f (18 + 4 * B) 0 * (3600 : Int32)) ∧ c0_sh f A B (18 + 4 * B) 4 = t2_rb (c0_sh f A B (18 + 4 * B) 3) ∧ c0_sh f A B (18 + 4 * B) 8 = t2_heldTo_v (f (18 + 4 * B) 8 + (t2_min_v (((t2_min_v (f 4 15) (f (18 + 4 * A) 2)) * (f 4 16)) / (100 : Int32)) (((f (18 + 4 * B) 0) * (3600 : Int32)) - (f (18 + 4 * B) 2)))) (0 : Int32) (f (18 + 4 * B) 0 * (3600 : Int32)) ∧ ∀ j : Nat, j ≠ 2 → j ≠ 3 → j ≠ 4 → j ≠ 8 → c0_sh f A B (18 + 4 * B) j = f (18 + 4 * B) j) ∧
    (∀ p : Nat, p ≠ 1 → p ≠ 18 + 4 * A → p ≠ 18 + 4 * B → c0_sh f A B p = f p) ∧
    (∀ j : Nat, j ≠ 14 → j ≠ 15 → c0_sh f A B 1 j = f 1 j) ∧ c0_sh f A B 1 14 = f 1 14 + t2_min_v (f 4 15) (f (18 + 4 * A) 2) ∧ c0_sh f A B 1 15 = f 1 15 + (t2_min_v (f 4 15) (f (18 + 4 * A) 2) - t2_min_v (((t2_min_v (f 4 15) (f (18 + 4 * A) 2)) * (f 4 16)) / (100 : Int32)) (((f (18 + 4 * B) 0) * (3600 : Int32)) - (f (18 + 4 * B) 2))) := by
  generalize hL : t2_min_v (f 4 15) (f (18 + 4 * A) 2) = L
  generalize hM : t2_min_v (L * (f 4 16) / (100 : Int32)) (((f (18 + 4 * B) 0) * (3600 : Int32)) - (f (18 + 4 * B) 2)) = M
  have e : c0_sh f A B = fl_row (c0_takeOrGive_m (c0_takeOrGive_m f A (-L)) B M) 1 (upd (upd ((c0_takeOrGive_m (c0_takeOrGive_m f A (-L)) B M) 1) 14 (f 1 14 + L)) 15 (f 1 15 + (L - M))) := by
    unfold c0_sh
    rw [hL, hM]
  have oth : ∀ p : Nat, p ≠ 18 + 4 * A → p ≠ 18 + 4 * B → c0_takeOrGive_m (c0_takeOrGive_m f A (-L)) B M p = f p := fun p hA hB => by
    rw [c0_takeOrGive_fr (p := p) (i := B) hB, c0_takeOrGive_fr (p := p) (i := A) hA]
  have eA : c0_sh f A B (18 + 4 * A) = c0_takeOrGive_m f A (-L) (18 + 4 * A) := by
    rw [e, fl_row_ne (by omega), c0_takeOrGive_fr (p := 18 + 4 * A) (i := B) (by omega)]
  have eB : c0_sh f A B (18 + 4 * B) = c0_takeOrGive_m (c0_takeOrGive_m f A (-L)) B M (18 + 4 * B) := by
    rw [e, fl_row_ne (by omega)]
  have fB : c0_takeOrGive_m f A (-L) (18 + 4 * B) = f (18 + 4 * B) := c0_takeOrGive_fr (p := 18 + 4 * B) (i := A) (by omega)
  have tA := c0_tog (f := f) (i := A) (x := -L)
  have tB := c0_tog (f := c0_takeOrGive_m f A (-L)) (i := B) (x := M)
  rw [fB] at tB
  rw [eA, eB]
  refine ⟨tA, tB, fun p h1 hA hB => ?_, fun j h14 h15 => ?_, ?_, ?_⟩
  · rw [e, fl_row_ne h1, oth p hA hB]
  · rw [e, fl_row_self, upd_ne h15, upd_ne h14, oth 1 (by omega) (by omega)]
  · rw [e, fl_row_self, upd_ne (by decide), upd_self]
  · rw [e, fl_row_self, upd_self]
end C0SHUT

end

/-! 94.03.nx.lean.txt -/
section
/-! ===== shunts: the next one, sums over bits, the reference's rounds ===== -/
noncomputable def t2_nx (p : Nat → Int32) (b x : Int32) : Nat → Int32
  | 0 => (-1 : Int32)
  | k + 1 => if (r_has_v b (Int32.ofNat k)).toInt = 0 then (if x.toInt < (p k).toInt then (if (t2_nx p b x k).toInt = (-1 : Int32).toInt then Int32.ofNat k else (if (p ((t2_nx p b x k).toInt.toNat)).toInt < (p k).toInt then Int32.ofNat k else t2_nx p b x k)) else t2_nx p b x k) else t2_nx p b x k
theorem r_nx {f : t2_F} {x : Int32} : ∀ n : Nat, r_nextShunt_a4 f x n = t2_nx (f 282) (f 280 13) x n := by
  intro n
  induction n with
  | zero => rfl
  | succ n ih =>
    unfold r_nextShunt_a4 t2_nx
    rw [ih]
theorem t2_nx_in {p : Nat → Int32} {b x : Int32} : ∀ n : Nat, n ≤ 16 → t2_nx p b x n = (-1 : Int32) ∨ ∃ j : Nat, j < n ∧ t2_nx p b x n = Int32.ofNat j ∧ t2_bt b j = false ∧ x.toInt < (p j).toInt := by
  intro n
  induction n with
  | zero => intro _; exact Or.inl rfl
  | succ n ih =>
    intro hn
    have keep : t2_nx p b x n = (-1 : Int32) ∨ ∃ j : Nat, j < n + 1 ∧ t2_nx p b x n = Int32.ofNat j ∧ t2_bt b j = false ∧ x.toInt < (p j).toInt := by
      rcases ih (by omega) with h | ⟨j, h1, h2⟩
      · exact Or.inl h
      · exact Or.inr ⟨j, by omega, h2⟩
    unfold t2_nx
    by_cases hb : (r_has_v b (Int32.ofNat n)).toInt = 0
    · rw [if_pos hb]
      have hb2 := (t2_has0 (by omega)).mp hb
      by_cases hx : x.toInt < (p n).toInt
      · rw [if_pos hx]
        split
        · exact Or.inr ⟨n, by omega, rfl, hb2, hx⟩
        · split
          · exact Or.inr ⟨n, by omega, rfl, hb2, hx⟩
          · exact keep
      · rw [if_neg hx]
        exact keep
    · rw [if_neg hb]
      exact keep
/-- a sum over the bits that are set -/
def t2_sb (b : Int32) (v : Nat → Int32) : Nat → Int32
  | 0 => 0
  | n + 1 => t2_sb b v n + (if t2_bt b n = true then v n else 0)
theorem t2_sb_z {b : Int32} {v : Nat → Int32} : t2_sb b v 0 = 0 := rfl
theorem t2_sb0 {v : Nat → Int32} : ∀ n : Nat, t2_sb 0 v n = 0 := by
  intro n
  induction n with
  | zero => rfl
  | succ n ih =>
    unfold t2_sb
    rw [ih, if_neg (by rw [t2_bt0]; exact Bool.false_ne_true)]
    rfl
theorem t2_sb_add {b : Int32} {v : Nat → Int32} {c : Nat} (hc : c < 32) (hb : t2_bt b c = false) : ∀ n : Nat, n ≤ 32 → t2_sb (b ||| ((1 : Int32) <<< (Int32.ofNat c &&& 31))) v n = if c < n then t2_sb b v n + v c else t2_sb b v n := by
  intro n
  induction n with
  | zero => intro _; rfl
  | succ n ih =>
    intro hn
    have ih := ih (by omega)
    unfold t2_sb
    rw [ih, t2_bor hc (by omega)]
    by_cases e : n = c
    · subst e
      rw [if_neg (Nat.lt_irrefl n), if_pos (show n < n + 1 by omega), hb, if_pos (by simp), if_neg Bool.false_ne_true, Int32.add_zero]
    · rw [decide_eq_false e, Bool.or_false]
      by_cases l : c < n
      · rw [if_pos l, if_pos (show c < n + 1 by omega), Int32.add_assoc, Int32.add_comm (v c), ← Int32.add_assoc]
      · rw [if_neg l, if_neg (show ¬ c < n + 1 by omega)]
section RNX
variable {f : t2_F} {a a0 : Int32} {X k j n : Nat}
theorem r_b81_w (hj : j < 16) {by_ : Int32} (hb : r_lesser_v (f 280 46) (f 280 (444 + 61 * j + 1)) = by_) :
    (r_shuntAll_b81_m f a X (Int32.ofNat j) k 280 (444 + 61 * j + 1) = r_held_v (f 280 (444 + 61 * j + 1) - by_) (0 : Int32) ((3600 : Int32) * f 280 (444 + 61 * j + 0)) ∧ r_shuntAll_b81_m f a X (Int32.ofNat j) k 280 (444 + 61 * j + 4) = r_held_v (f 280 (444 + 61 * j + 4) - f 280 46) (0 : Int32) ((3600 : Int32) * f 280 (444 + 61 * j + 0))) ∧
    (∀ w : Nat, w ≠ 8 → w ≠ 10 → w ≠ 13 → w ≠ 444 + 61 * j + 1 → w ≠ 444 + 61 * j + 4 → r_shuntAll_b81_m f a X (Int32.ofNat j) k 280 w = f 280 w) ∧
    r_shuntAll_b81_m f a X (Int32.ofNat j) k 280 8 = f 280 8 + (3 : Int32) ∧ r_shuntAll_b81_m f a X (Int32.ofNat j) k 280 10 = f 280 10 + by_ ∧ r_shuntAll_b81_m f a X (Int32.ofNat j) k 280 13 = f 280 13 ||| ((1 : Int32) <<< (Int32.ofNat j &&& 31)) ∧ r_shuntAll_b81_m f a X (Int32.ofNat j) k 282 = f 282 := by
  have e : (Int32.ofNat j).toInt.toNat = j := by rw [at_ofN (by omega)]; exact Int.toNat_natCast j
  unfold r_shuntAll_b81_m
  simp only [e, hb]
  generalize hM : r_hold_m (fl_row f 280 (upd (upd (f 280) (444 + 61 * j + 1) (f 280 (444 + 61 * j + 1) - by_)) (444 + 61 * j + 4) (f 280 (444 + 61 * j + 4) - f 280 46))) (Int32.ofNat j) j = M
  have m1 : M 280 (444 + 61 * j + 1) = r_held_v (f 280 (444 + 61 * j + 1) - by_) (0 : Int32) ((3600 : Int32) * f 280 (444 + 61 * j + 0)) := by
    rw [← hM, r_hld_1]
    simp (disch := omega) only [fl_row_self, upd_self, upd_ne]
  have m4 : M 280 (444 + 61 * j + 4) = r_held_v (f 280 (444 + 61 * j + 4) - f 280 46) (0 : Int32) ((3600 : Int32) * f 280 (444 + 61 * j + 0)) := by
    rw [← hM, r_hld_4]
    simp (disch := omega) only [fl_row_self, upd_self, upd_ne]
  have mo : ∀ w : Nat, w ≠ 444 + 61 * j + 1 → w ≠ 444 + 61 * j + 4 → M 280 w = f 280 w := fun w h1 h4 => by
    rw [← hM, r_hld_o h1 h4, fl_row_self, upd_ne h4, upd_ne h1]
  have mp : M 282 = f 282 := by
    rw [← hM, r_hld_p (by decide), fl_row_ne (by decide)]
  refine ⟨⟨?_, ?_⟩, fun w h8 h10 h13 h1 h4 => ?_, ?_, ?_, ?_, ?_⟩
  · rw [fl_row_ne (by decide), fl_row_self, upd_ne (by omega), upd_ne (by omega), upd_ne (by omega), m1]
  · rw [fl_row_ne (by decide), fl_row_self, upd_ne (by omega), upd_ne (by omega), upd_ne (by omega), m4]
  · rw [fl_row_ne (by decide), fl_row_self, upd_ne h13, upd_ne h8, upd_ne h10, mo w h1 h4]
  · rw [fl_row_ne (by decide), fl_row_self, upd_ne (by decide), upd_self]
  · rw [fl_row_ne (by decide), fl_row_self, upd_ne (by decide), upd_ne (by decide), upd_self]
  · rw [fl_row_ne (by decide), fl_row_self, upd_self]
  · rw [fl_row_ne (by decide), fl_row_ne (by decide), mp]
/-- what the reference's rounds have left -/
def r_SI (g0 G : t2_F) (n : Nat) : Prop :=
  (∀ C : Nat, C < n → G 282 C = r_partOf_v g0 0 C) ∧
  (∀ C : Nat, C < n → (t2_bt (G 280 13) C = true → G 280 (444 + 61 * C + 1) = r_held_v (g0 280 (444 + 61 * C + 1) - r_lesser_v (g0 280 46) (g0 280 (444 + 61 * C + 1))) (0 : Int32) ((3600 : Int32) * g0 280 (444 + 61 * C + 0)) ∧ G 280 (444 + 61 * C + 4) = r_held_v (g0 280 (444 + 61 * C + 4) - g0 280 46) (0 : Int32) ((3600 : Int32) * g0 280 (444 + 61 * C + 0))) ∧ (t2_bt (G 280 13) C = false → G 280 (444 + 61 * C + 1) = g0 280 (444 + 61 * C + 1) ∧ G 280 (444 + 61 * C + 4) = g0 280 (444 + 61 * C + 4))) ∧
  (∀ w : Nat, w ≠ 8 → w ≠ 10 → w ≠ 13 → (∀ C : Nat, C < n → w ≠ 444 + 61 * C + 1 ∧ w ≠ 444 + 61 * C + 4) → G 280 w = g0 280 w) ∧
  G 280 8 = g0 280 8 + t2_sb (G 280 13) (fun _ => (3 : Int32)) n ∧ G 280 10 = g0 280 10 + t2_sb (G 280 13) (fun C => r_lesser_v (g0 280 46) (g0 280 (444 + 61 * C + 1))) n
theorem r_SI_step {g0 G : t2_F} (hn : n ≤ 16) (h : r_SI g0 G n) (hj : j < n) (hb : t2_bt (G 280 13) j = false) : r_SI g0 (r_shuntAll_b81_m G a X (Int32.ofNat j) k) n := by
  obtain ⟨h1, h2, h3, h4, h5⟩ := h
  obtain ⟨⟨w1, w4⟩, wo, w8, w10, w13, wp⟩ := r_b81_w (f := G) (a := a) (X := X) (k := k) (j := j) (by omega) rfl
  have k46 : G 280 46 = g0 280 46 := h3 46 (by decide) (by decide) (by decide) (fun C hC => ⟨by omega, by omega⟩)
  have k0 : ∀ C : Nat, C < n → G 280 (444 + 61 * C + 0) = g0 280 (444 + 61 * C + 0) := fun C hC => h3 _ (by omega) (by omega) (by omega) (fun D hD => ⟨by omega, by omega⟩)
  obtain ⟨j1, j4⟩ := (h2 j hj).2 hb
  have bits : ∀ C : Nat, C < n → t2_bt (G 280 13 ||| ((1 : Int32) <<< (Int32.ofNat j &&& 31))) C = (t2_bt (G 280 13) C || decide (C = j)) := fun C hC => t2_bor (by omega) (by omega)
  refine ⟨fun C hC => by rw [wp]; exact h1 C hC, fun C hC => ?_, fun w a8 a10 a13 ac => ?_, ?_, ?_⟩
  · rw [w13, bits C hC]
    by_cases e : C = j
    · subst e
      refine ⟨fun _ => ⟨?_, ?_⟩, fun hf => ?_⟩
      · rw [w1, k46, j1, k0 C hC]
      · rw [w4, k46, j4, k0 C hC]
      · rw [decide_eq_true rfl, Bool.or_true] at hf
        cases hf
    · rw [decide_eq_false e, Bool.or_false, wo _ (by omega) (by omega) (by omega) (by omega) (by omega), wo _ (by omega) (by omega) (by omega) (by omega) (by omega)]
      exact h2 C hC
  · rw [wo w a8 a10 a13 (ac j hj).1 (ac j hj).2]
    exact h3 w a8 a10 a13 ac
  · rw [w13, t2_sb_add (by omega) hb n (by omega), if_pos hj, w8, h4, Int32.add_assoc]
  · rw [w13, t2_sb_add (by omega) hb n (by omega), if_pos hj, w10, h5, k46, j1, Int32.add_assoc]
/-- the reference's choice at each round -/
theorem r_shunt_a {g0 : t2_F} (k : Nat) (hk : k ≤ (r_shuntAll_j24_0 g0).toInt.toNat) : r_shuntAll_a81_0 g0 k = if k < (r_shuntAll_j24_0 g0).toInt.toNat then r_nextShunt_v (r_shuntAll_f81 g0 k) ((r_leastPart_v g0) + (g0 280 48)) else (-1 : Int32) := by
  cases k with
  | zero =>
    show r_shuntAll_j68_0 g0 = if _ then r_nextShunt_v (r_shuntAll_f40 g0 ((g0 280 2).toInt.toNat)) _ else _
    unfold r_shuntAll_j68_0
    by_cases h : 0 < (r_shuntAll_j24_0 g0).toInt
    · rw [if_pos h, if_pos (by omega)]
    · rw [if_neg h, if_neg (by omega)]
  | succ k =>
    have b := at_i32 (r_shuntAll_j24_0 g0)
    rw [r_shuntAll_aS, r_shuntAll_fS]
    show (if 0 < ((Int32.ofNat ((r_shuntAll_j24_0 g0).toInt.toNat - k)) + (-1 : Int32)).toInt then r_nextShunt_v (r_shuntAll_b81_m (r_shuntAll_f81 g0 k) ((r_leastPart_v g0) + (g0 280 48)) ((r_shuntAll_j24_0 g0).toInt.toNat) (r_shuntAll_a81_0 g0 k) k) ((r_leastPart_v g0) + (g0 280 48)) else (-1 : Int32)) = _
    rw [← t2_kd (by omega), at_ofN (by omega)]
    by_cases h : k + 1 < (r_shuntAll_j24_0 g0).toInt.toNat
    · rw [if_pos h, if_pos (by omega)]
    · rw [if_neg h, if_neg (by omega)]
theorem r_shunt_0 {g0 : t2_F} (hn : (g0 280 2).toInt.toNat = n) (hn16 : n ≤ 16) (h13 : g0 280 13 = 0) : r_SI g0 (r_shuntAll_f81 g0 0) n := by
  have e : r_shuntAll_f81 g0 0 = r_shuntAll_f40 g0 n := by
    unfold r_shuntAll_f81 r_shuntAll_l81
    rw [hn]
  have e280 : ∀ k : Nat, r_shuntAll_f40 g0 k 280 = g0 280 := fun k => r_shuntAll_f40_fr (k := k) (p := 280) (fun j hj => by decide)
  have e282 : ∀ k : Nat, ∀ C : Nat, C < k → r_shuntAll_f40 g0 k 282 C = r_partOf_v g0 0 C := by
    intro k
    induction k with
    | zero => intro C h; exact absurd h (Nat.not_lt_zero _)
    | succ k ih =>
      intro C h
      show r_shuntAll_b40_m (r_shuntAll_f40 g0 k) _ _ k 282 C = _
      unfold r_shuntAll_b40_m
      rw [fl_row_self]
      by_cases e : C = k
      · subst e
        rw [upd_self]
        unfold r_partOf_v
        rw [e280]
      · rw [upd_ne e]
        exact ih C (by omega)
  rw [e]
  refine ⟨fun C hC => e282 n C hC, fun C hC => ?_, fun w _ _ _ _ => by rw [e280], ?_, ?_⟩
  · rw [e280, h13, t2_bt0]
    exact ⟨fun h => (Bool.false_ne_true h).elim, fun _ => ⟨rfl, rfl⟩⟩
  · rw [e280, h13, t2_sb0, Int32.add_zero]
  · rw [e280, h13, t2_sb0, Int32.add_zero]
end RNX

end

/-! 94.04.shun.lean.txt -/
section
/-! ===== block 0: (4) of a second: shunts ===== -/
section C0SHUN
variable {fc fr g0 F G : t2_F} {C n X : Nat} {x y a above : Int32}
theorem c0_nx {p : Nat → Int32} (hp : ∀ k : Nat, k < n → fc (18 + 4 * k) 3 = p k) (hn : n ≤ 16) : ∀ m : Nat, m ≤ n → (c0_greatestAbove_a8 fc x y m).1 = t2_nx p y x m ∧ (c0_greatestAbove_a8 fc x y m).2 = if (t2_nx p y x m).toInt = (-1 : Int32).toInt then x else p ((t2_nx p y x m).toInt.toNat) := by
  have m1 : (-1 : Int32).toInt = -1 := by decide +kernel
  intro m
  induction m with
  | zero => intro _; exact ⟨rfl, (if_pos rfl).symm⟩
  | succ m ih =>
    intro hm
    obtain ⟨i1, i2⟩ := ih (by omega)
    have em : (Int32.ofNat m).toInt = m := at_ofN (by omega)
    have emn : (Int32.ofNat m).toInt.toNat = m := by omega
    unfold c0_greatestAbove_a8 t2_nx
    rw [i1, i2, hp m (by omega)]
    by_cases hb : t2_bt y m = false
    · have c1 : ((y >>> (Int32.ofNat m &&& 31)) &&& (1 : Int32)).toInt = 0 := (t2_bit0 (by omega)).mpr hb
      have c2 : (r_has_v y (Int32.ofNat m)).toInt = 0 := (t2_has0 (by omega)).mpr hb
      simp only [if_pos c1, if_pos c2]
      rcases t2_nx_in (p := p) (b := y) (x := x) m (by omega) with h | ⟨j, j1, j2, j3, j4⟩
      · rw [h]
        simp only [if_true]
        by_cases hx : x.toInt < (p m).toInt
        · simp only [if_pos hx]
          exact ⟨trivial, by rw [if_neg (by omega), emn]⟩
        · simp only [if_neg hx]
          exact ⟨trivial, (if_pos trivial).symm⟩
      · have ej : (Int32.ofNat j).toInt = j := at_ofN (by omega)
        have ejn : (Int32.ofNat j).toInt.toNat = j := by omega
        have nj : ¬ (Int32.ofNat j).toInt = (-1 : Int32).toInt := by omega
        rw [j2]
        simp only [if_neg nj, ejn]
        by_cases hx : (p j).toInt < (p m).toInt
        · simp only [if_pos hx, if_pos (show x.toInt < (p m).toInt by omega)]
          exact ⟨trivial, by rw [if_neg (by omega), emn]⟩
        · simp only [if_neg hx, ite_self]
          exact ⟨trivial, by rw [if_neg nj, ejn]⟩
    · have c1 : ¬ ((y >>> (Int32.ofNat m &&& 31)) &&& (1 : Int32)).toInt = 0 := fun h => hb ((t2_bit0 (by omega)).mp h)
      have c2 : ¬ (r_has_v y (Int32.ofNat m)).toInt = 0 := fun h => hb ((t2_has0 (by omega)).mp h)
      simp only [if_neg c1, if_neg c2]
      exact ⟨trivial, trivial⟩
theorem c0_rowrow {f : t2_F} {p k : Nat} {v v' : Int32} : fl_row (fl_row f p (upd (f p) k v)) p (upd ((fl_row f p (upd (f p) k v)) p) k v') = fl_row f p (upd (f p) k v') := by
  funext q j
  by_cases h : q = p
  · subst h
    simp only [fl_row_self]
    unfold upd
    by_cases e : j = k
    · simp only [if_pos e]
    · simp only [if_neg e]
  · rw [fl_row_ne h, fl_row_ne h, fl_row_ne h]
theorem c0_rowid {f : t2_F} {p k : Nat} {v : Int32} (h : f p k = v) : fl_row f p (upd (f p) k v) = f := by
  subst h
  funext q j
  by_cases h : q = p
  · subst h
    rw [fl_row_self]
    unfold upd
    by_cases e : j = k
    · rw [if_pos e, e]
    · rw [if_neg e]
  · rw [fl_row_ne h]
/-- the class's choice, with the bits b so far -/
theorem c0_ga {b : Int32} {p : Nat → Int32} (hc : (fc 1 5).toInt.toNat = n) (hn : n ≤ 16) (hp : ∀ k : Nat, k < n → fc (18 + 4 * k) 3 = p k) : c0_greatestAbove_v (fl_row fc 1 (upd (fc 1) 16 b)) x b = t2_nx p b x n := by
  unfold c0_greatestAbove_v
  rw [fl_row_self, upd_ne (by decide : 5 ≠ 16), hc]
  exact (c0_nx (fc := fl_row fc 1 (upd (fc 1) 16 b)) (p := p) (fun k hk => by rw [fl_row_ne (by omega)]; exact hp k hk) hn n (Nat.le_refl n)).1
theorem r_shunt_013 : r_shuntAll_f81 g0 0 280 = g0 280 := by
  unfold r_shuntAll_f81 r_shuntAll_l81
  exact r_shuntAll_f40_fr (p := 280) (fun j hj => by decide)
theorem c0_sync (hc : (fc 1 5).toInt.toNat = n) (hn : n ≤ 16) (hg : (g0 280 2).toInt.toNat = n) (hp : ∀ C : Nat, C < n → fc (18 + 4 * C) 3 = r_partOf_v g0 0 C) (h16 : fc 1 16 = 0) (h13 : g0 280 13 = 0) (hX : (r_shuntAll_j24_0 g0).toInt.toNat = X) (hab : (r_leastPart_v g0) + (g0 280 48) = above) : ∀ k : Nat, k ≤ r_shuntAll_R g0 → r_SI g0 (r_shuntAll_f81 g0 k) n ∧ t2_wf (fun f' => c0_shuntCells_g49 f' a above) X fc = t2_wf (fun f' => c0_shuntCells_g49 f' a above) (X - k) (fl_row fc 1 (upd (fc 1) 16 (r_shuntAll_f81 g0 k 280 13))) := by
  have m1 : (-1 : Int32).toInt = -1 := by decide +kernel
  have hRX : r_shuntAll_R g0 ≤ X := by rw [← hX]; exact t2_fst_le _ _
  intro k
  induction k with
  | zero =>
    intro _
    refine ⟨r_shunt_0 hg hn h13, ?_⟩
    rw [r_shunt_013, c0_rowid (h16.trans h13.symm)]
    rfl
  | succ k ih =>
    intro hk
    obtain ⟨i1, i2⟩ := ih (by omega)
    have ha := r_shunt_a (g0 := g0) k (by omega)
    rw [if_pos (by omega), hab] at ha
    have hne := r_shuntAll_kt (f := g0) (k := k) (by omega)
    have h2 : r_shuntAll_f81 g0 k 280 2 = g0 280 2 := i1.2.2.1 2 (by decide) (by decide) (by decide) (fun C hC => ⟨by omega, by omega⟩)
    have hv : r_nextShunt_v (r_shuntAll_f81 g0 k) above = t2_nx (r_shuntAll_f81 g0 k 282) (r_shuntAll_f81 g0 k 280 13) above n := by
      unfold r_nextShunt_v
      rw [h2, hg, r_nx]
    rw [ha, hv] at hne
    rcases t2_nx_in (p := r_shuntAll_f81 g0 k 282) (b := r_shuntAll_f81 g0 k 280 13) (x := above) n hn with h | ⟨j, j1, j2, j3, j4⟩
    · rw [h] at hne
      exact absurd rfl hne
    · have ej : (Int32.ofNat j).toInt = j := at_ofN (by omega)
      have ea : r_shuntAll_a81_0 g0 k = Int32.ofNat j := by rw [ha, hv, j2]
      have eS : r_shuntAll_f81 g0 (k + 1) = r_shuntAll_b81_m (r_shuntAll_f81 g0 k) ((r_leastPart_v g0) + (g0 280 48)) ((r_shuntAll_j24_0 g0).toInt.toNat) (Int32.ofNat j) k := by rw [r_shuntAll_fS, ea]
      have w13 := (r_b81_w (f := r_shuntAll_f81 g0 k) (a := (r_leastPart_v g0) + (g0 280 48)) (X := (r_shuntAll_j24_0 g0).toInt.toNat) (k := k) (j := j) (by omega) rfl).2.2.2.2.1
      refine ⟨by rw [eS]; exact r_SI_step hn i1 j1 j3, ?_⟩
      rw [i2, show X - k = (X - (k + 1)) + 1 by omega]
      have eg : c0_shuntCells_g49 (fl_row fc 1 (upd (fc 1) 16 (r_shuntAll_f81 g0 k 280 13))) a above = some (fl_row fc 1 (upd (fc 1) 16 (r_shuntAll_f81 g0 (k + 1) 280 13))) := by
        unfold c0_shuntCells_g49
        rw [fl_row_self, upd_self, c0_ga hc hn (fun C hC => (hp C hC).trans (i1.1 C hC).symm), j2, if_neg (by omega), eS, w13]
        congr 1
        have rr := c0_rowrow (f := fc) (p := 1) (k := 16) (v := r_shuntAll_f81 g0 k 280 13) (v' := r_shuntAll_f81 g0 k 280 13 ||| ((1 : Int32) <<< (Int32.ofNat j &&& 31)))
        rw [fl_row_self] at rr
        exact rr
      show (match c0_shuntCells_g49 (fl_row fc 1 (upd (fc 1) 16 (r_shuntAll_f81 g0 k 280 13))) a above with | none => _ | some f' => t2_wf _ (X - (k + 1)) f') = _
      rw [eg]
theorem c0_chosen (hc : (fc 1 5).toInt.toNat = n) (hn : n ≤ 16) (hg : (g0 280 2).toInt.toNat = n) (hp : ∀ C : Nat, C < n → fc (18 + 4 * C) 3 = r_partOf_v g0 0 C) (h16 : fc 1 16 = 0) (h13 : g0 280 13 = 0) (hX : (r_shuntAll_j24_0 g0).toInt.toNat = X) (hab : (r_leastPart_v g0) + (g0 280 48) = above) (ho : 0 ≤ (g0 280 47).toInt ∧ (g0 280 47).toInt ≤ 16) : r_SI g0 (r_shuntAll_m g0) n ∧ t2_wf (fun f' => c0_shuntCells_g49 f' a above) X fc = fl_row fc 1 (upd (fc 1) 16 (r_shuntAll_m g0 280 13)) := by
  have hRX : r_shuntAll_R g0 ≤ X := by rw [← hX]; exact t2_fst_le _ _
  obtain ⟨i1, i2⟩ := c0_sync (a := a) hc hn hg hp h16 h13 hX hab (r_shuntAll_R g0) (Nat.le_refl _)
  refine ⟨i1, i2.trans ?_⟩
  show _ = fl_row fc 1 (upd (fc 1) 16 (r_shuntAll_f81 g0 (r_shuntAll_R g0) 280 13))
  by_cases hR : r_shuntAll_R g0 = X
  · rw [hR, Nat.sub_self]
    rfl
  · have hl := r_shuntAll_kf (f := g0) ho
    rw [r_shunt_a (g0 := g0) (r_shuntAll_R g0) (by omega), if_pos (by omega), hab] at hl
    have h2 : r_shuntAll_f81 g0 (r_shuntAll_R g0) 280 2 = g0 280 2 := i1.2.2.1 2 (by decide) (by decide) (by decide) (fun C hC => ⟨by omega, by omega⟩)
    unfold r_nextShunt_v at hl
    rw [h2, hg, r_nx] at hl
    apply t2_wf_none
    unfold c0_shuntCells_g49
    rw [fl_row_self, upd_self, c0_ga hc hn (fun C hC => (hp C hC).trans (i1.1 C hC).symm), if_pos hl]
theorem c0_gs {f : t2_F} {i : Nat} {x : Int32} : c0_giveShunt_m f i x (18 + 4 * i) 2 = t2_heldTo_v (f (18 + 4 * i) 2 - t2_min_v x (f (18 + 4 * i) 2)) (0 : Int32) (f (18 + 4 * i) 0 * (3600 : Int32)) ∧
    c0_giveShunt_m f i x (18 + 4 * i) 3 = t2_partOf_v (c0_giveShunt_m f i x (18 + 4 * i) 2) (f (18 + 4 * i) 0 * (3600 : Int32)) ∧
    c0_giveShunt_m f i x (18 + 4 * i) 4 = t2_rb (c0_giveShunt_m f i x (18 + 4 * i) 3) ∧
    c0_giveShunt_m f i x (18 + 4 * i) 8 = t2_heldTo_v (f (18 + 4 * i) 8 - x) (0 : Int32) (f (18 + 4 * i) 0 * (3600 : Int32)) ∧
    ∀ j : Nat, j ≠ 2 → j ≠ 3 → j ≠ 4 → j ≠ 8 → c0_giveShunt_m f i x (18 + 4 * i) j = f (18 + 4 * i) j := by
  unfold c0_giveShunt_m c0_putReckoned_m c0_putCharge_m
  refine ⟨?_, ?_, ?_, ?_, fun j h2 h3 h4 h8 => ?_⟩ <;> simp (disch := omega) only [fl_row_self, upd_self, upd_ne]
/-- what the class's giving has left behind k cells -/
def c0_GI (fc F : t2_F) (b : Int32) (n k : Nat) : Prop :=
  (∀ C : Nat, C < n → (C < k ∧ t2_bt b C = true → F (18 + 4 * C) 2 = t2_heldTo_v (fc (18 + 4 * C) 2 - t2_min_v (fc 4 12) (fc (18 + 4 * C) 2)) (0 : Int32) (fc (18 + 4 * C) 0 * (3600 : Int32)) ∧ F (18 + 4 * C) 3 = t2_partOf_v (F (18 + 4 * C) 2) (fc (18 + 4 * C) 0 * (3600 : Int32)) ∧ F (18 + 4 * C) 4 = t2_rb (F (18 + 4 * C) 3) ∧ F (18 + 4 * C) 8 = t2_heldTo_v (fc (18 + 4 * C) 8 - fc 4 12) (0 : Int32) (fc (18 + 4 * C) 0 * (3600 : Int32)) ∧ ∀ j : Nat, j ≠ 2 → j ≠ 3 → j ≠ 4 → j ≠ 8 → F (18 + 4 * C) j = fc (18 + 4 * C) j) ∧ (¬ (C < k ∧ t2_bt b C = true) → F (18 + 4 * C) = fc (18 + 4 * C))) ∧
  F 1 13 = fc 1 13 + t2_sb b (fun C => t2_min_v (fc 4 12) (fc (18 + 4 * C) 2)) k ∧ F 1 11 = fc 1 11 + t2_sb b (fun _ => (3 : Int32)) k ∧ F 1 16 = b ∧ (∀ j : Nat, j ≠ 11 → j ≠ 13 → j ≠ 16 → F 1 j = fc 1 j) ∧ F 4 = fc 4
theorem c0_GI_step {b : Int32} {k : Nat} (hn : n ≤ 16) (hk : k < n) (h : c0_GI fc F b n k) : c0_GI fc (c0_shuntCells_b95_m F a above k) b n (k + 1) := by
  obtain ⟨h1, h2, h3, h4, h5, h6⟩ := h
  have hF := (h1 k hk).2 (fun q => absurd q.1 (Nat.lt_irrefl k))
  unfold c0_shuntCells_b95_m
  rw [h4]
  by_cases hb : t2_bt b k = false
  · rw [if_pos ((t2_bit0 (by omega)).mpr hb)]
    refine ⟨fun C hC => ?_, ?_, ?_, h4, h5, h6⟩
    · by_cases e : C = k
      · subst e
        exact ⟨fun q => absurd (q.2.symm.trans hb) (by decide), fun _ => hF⟩
      · have := h1 C hC
        refine ⟨fun q => this.1 ⟨by omega, q.2⟩, fun q => this.2 (fun r => q ⟨by omega, r.2⟩)⟩
    · rw [h2]
      show _ = _ + (_ + (if t2_bt b k = true then _ else 0))
      rw [if_neg (by rw [hb]; decide), Int32.add_zero]
    · rw [h3]
      show _ = _ + (_ + (if t2_bt b k = true then _ else 0))
      rw [if_neg (by rw [hb]; decide), Int32.add_zero]
  · have hb1 : t2_bt b k = true := by
      cases e : t2_bt b k
      · exact absurd e hb
      · rfl
    rw [if_neg (fun q => hb ((t2_bit0 (by omega)).mp q))]
    obtain ⟨g2, g3, g4, g8, go⟩ := c0_gs (f := F) (i := k) (x := F 4 12)
    have gp : ∀ p : Nat, p ≠ 18 + 4 * k → c0_giveShunt_m F k (F 4 12) p = F p := fun p hp => c0_giveShunt_fr (p := p) (i := k) hp
    have gv : c0_giveShunt_v F k (F 4 12) = t2_min_v (fc 4 12) (fc (18 + 4 * k) 2) := by
      unfold c0_giveShunt_v
      rw [h6, hF]
    refine ⟨fun C hC => ?_, ?_, ?_, ?_, fun j j11 j13 j16 => ?_, ?_⟩
    · rw [fl_row_ne (by omega)]
      by_cases e : C = k
      · subst e
        refine ⟨fun _ => ⟨?_, ?_, g4, ?_, fun j a2 a3 a4 a8 => ?_⟩, fun q => absurd ⟨Nat.lt_succ_self C, hb1⟩ q⟩
        · rw [g2, h6, hF]
        · rw [g3, hF]
        · rw [g8, h6, hF]
        · rw [go j a2 a3 a4 a8, hF]
      · rw [gp (18 + 4 * C) (by omega)]
        have := h1 C hC
        exact ⟨fun q => this.1 ⟨by omega, q.2⟩, fun q => this.2 (fun r => q ⟨by omega, r.2⟩)⟩
    · rw [fl_row_self, upd_ne (by decide), upd_self, gv, h2]
      show _ = _ + (_ + (if t2_bt b k = true then _ else 0))
      rw [if_pos hb1, Int32.add_assoc]
    · rw [fl_row_self, upd_self, h3]
      show _ = _ + (_ + (if t2_bt b k = true then _ else 0))
      rw [if_pos hb1, Int32.add_assoc]
    · rw [fl_row_self, upd_ne (by decide), upd_ne (by decide), gp 1 (by omega), h4]
    · rw [fl_row_self, upd_ne j11, upd_ne j13, gp 1 (by omega), h5 j j11 j13 j16]
    · rw [fl_row_ne (by decide), gp 4 (by omega), h6]
end C0SHUN

end

/-! 94.05.bal.lean.txt -/
section
/-! ===== block 0: (4) of a second ===== -/
section C0BAL
variable {fc fr F G : t2_F} {C n : Nat}
def c0_RB (fc fr : t2_F) (n : Nat) : Prop := c0_Rs fc fr ∧ (∀ C : Nat, C < n → c0_Rc fc fr C ∧ t2_cap (fc (18 + 4 * C) 0) ∧ t2_ck fr C) ∧ fc 1 14 = fr 280 11 ∧ fc 1 15 = fr 280 12 ∧ fc 1 11 = fr 280 8 ∧ fc 1 13 = fr 280 10 ∧ fc 1 16 = fr 280 13
theorem c0_ck_held {v x : Int32} (hx : t2_cap x) (h0 : G 280 (444 + 61 * C + 0) = x) (h1 : G 280 (444 + 61 * C + 1) = r_held_v v (0 : Int32) ((3600 : Int32) * x)) : t2_ck G C := by
  have hf := t2_full_r hx
  have e0 : (0 : Int32).toInt = 0 := rfl
  have b : (0 : Int32).toInt ≤ (r_held_v v (0 : Int32) ((3600 : Int32) * x)).toInt ∧ (r_held_v v (0 : Int32) ((3600 : Int32) * x)).toInt ≤ ((3600 : Int32) * x).toInt := t2_heldTo_b (v := v) (lo := (0 : Int32)) (hi := (3600 : Int32) * x) (by have := hx.1; omega)
  unfold t2_ck
  rw [h0, h1]
  exact ⟨hx, by omega, by omega⟩
theorem c0_ck_congr (h : t2_ck fr C) (e0 : G 280 (444 + 61 * C + 0) = fr 280 (444 + 61 * C + 0)) (e1 : G 280 (444 + 61 * C + 1) = fr 280 (444 + 61 * C + 1)) : t2_ck G C := by
  unfold t2_ck
  rw [e0, e1]
  exact h
theorem c0_RB.congrG (h : c0_RB fc fr n) (e : G 280 = fr 280) : c0_RB fc G n := by
  obtain ⟨hs, hc, e14, e15, e11, e13, e16⟩ := h
  refine ⟨hs.congr rfl (fun k _ => by rw [e]), fun C hC => ⟨(hc C hC).1.congr rfl (fun k _ => by rw [e]), (hc C hC).2.1, c0_ck_congr (hc C hC).2.2 (by rw [e]) (by rw [e])⟩, ?_, ?_, ?_, ?_, ?_⟩ <;> rw [e] <;> assumption
theorem c0_sh_eq {A B : Nat} {cA cB : Int32} (hA : A < n) (hB : B < n) (hAB : A ≠ B) (h : c0_RB fc fr n) (hG : G 280 = r_sh fr cA cB A B 280) : c0_RB (c0_sh fc A B) G n := by
  obtain ⟨hs, hc, e14, e15, e11, e13, e16⟩ := h
  have rA := (hc A hA).1
  have rB := (hc B hB).1
  have capA := (hc A hA).2.1
  have capB := (hc B hB).2.1
  have s15 : fc 4 15 = fr 280 49 := hs 15 (by omega)
  have s16 : fc 4 16 = fr 280 50 := hs 16 (by omega)
  have a0 := rA.1.1
  have a2 := rA.1.2.2
  have a8 := rA.2.2.2.1
  have b0 := rB.1.1
  have b2 := rB.1.2.2
  have b8 := rB.2.2.2.1
  have ho : r_lesser_v (fr 280 49) (fr 280 (444 + 61 * A + 1)) = t2_min_v (fc 4 15) (fc (18 + 4 * A) 2) := by rw [t2_les, s15, a2]
  have hi : r_lesser_v (t2_min_v (fc 4 15) (fc (18 + 4 * A) 2) * (fr 280 50) / (100 : Int32)) (((3600 : Int32) * (fr 280 (444 + 61 * B + 0))) - (fr 280 (444 + 61 * B + 1))) = t2_min_v (((t2_min_v (fc 4 15) (fc (18 + 4 * A) 2)) * (fc 4 16)) / (100 : Int32)) (((fc (18 + 4 * B) 0) * (3600 : Int32)) - (fc (18 + 4 * B) 2)) := by rw [t2_les, s16, b0, b2, t2_m32 (3600 : Int32)]
  obtain ⟨⟨g1, g2⟩, ⟨g3, g4⟩, go, g11, g12⟩ := r_sh_w (f := fr) (cA := cA) (cB := cB) hAB ho hi
  obtain ⟨⟨wA2, wA3, wA4, wA8, wAo⟩, ⟨wB2, wB3, wB4, wB8, wBo⟩, wp, wo, w14, w15⟩ := c0_sh_w (f := fc) hAB
  refine ⟨fun k hk => ?_, fun C hC => ?_, ?_, ?_, ?_, ?_, ?_⟩
  · rw [wp 4 (by decide) (by omega) (by omega), hG, go (34 + k) (by omega) (by omega) (by omega) (by omega) (by omega) (by omega)]
    exact hs k hk
  · by_cases eA : C = A
    · subst eA
      have k := c0_Rc_new (F := c0_sh fc C B) (G := G) rA capA (by rw [wA2, hG, g1, ← a2, ← a0, t2_m32 (3600 : Int32), Int32.sub_eq_add_neg]; rfl) wA3 wA4 (by rw [wA8, hG, g2, ← a8, ← a0, t2_m32 (3600 : Int32), Int32.sub_eq_add_neg]; rfl) wAo (fun w hw h1 h4 => by rw [hG]; exact go _ (by omega) (by omega) (by omega) (by omega) (by omega) (by omega))
      exact ⟨k.1, k.2, c0_ck_held (hc C hC).2.2.1 (by rw [hG]; exact go _ (by omega) (by omega) (by omega) (by omega) (by omega) (by omega)) (by rw [hG]; exact g1)⟩
    · by_cases eB : C = B
      · subst eB
        have k := c0_Rc_new (F := c0_sh fc A C) (G := G) rB capB (by rw [wB2, hG, g3, ← b2, ← b0, t2_m32 (3600 : Int32)]; rfl) wB3 wB4 (by rw [wB8, hG, g4, ← b8, ← b0, t2_m32 (3600 : Int32)]; rfl) wBo (fun w hw h1 h4 => by rw [hG]; exact go _ (by omega) (by omega) (by omega) (by omega) (by omega) (by omega))
        exact ⟨k.1, k.2, c0_ck_held (hc C hC).2.2.1 (by rw [hG]; exact go _ (by omega) (by omega) (by omega) (by omega) (by omega) (by omega)) (by rw [hG]; exact g3)⟩
      · have ep := wp (18 + 4 * C) (by omega) (by omega) (by omega)
        have eg : ∀ k : Nat, k < 61 → G 280 (444 + 61 * C + k) = fr 280 (444 + 61 * C + k) := fun k hk => by rw [hG]; exact go _ (by omega) (by omega) (by omega) (by omega) (by omega) (by omega)
        exact ⟨(hc C hC).1.congr ep eg, by rw [ep]; exact (hc C hC).2.1, c0_ck_congr (hc C hC).2.2 (eg 0 (by decide)) (eg 1 (by decide))⟩
  · rw [w14, hG, g11, e14]
  · rw [w15, hG, g12, e15]
  · rw [wo 11 (by decide) (by decide), hG, go 8 (by omega) (by omega) (by omega) (by omega) (by omega) (by omega), e11]
  · rw [wo 13 (by decide) (by decide), hG, go 10 (by omega) (by omega) (by omega) (by omega) (by omega) (by omega), e13]
  · rw [wo 16 (by decide) (by decide), hG, go 13 (by omega) (by omega) (by omega) (by omega) (by omega) (by omega), e16]
theorem c0_shuttle_eq {i : Nat} (hi : i + 1 < n) (h : c0_RB fc fr n) : c0_RB (c0_shuttle_m fc i) (r_shuttle_m fr (Int32.ofNat i) i) n := by
  have hs14 : fc 4 14 = fr 280 48 := h.1 14 (by omega)
  have pi : fc (18 + 4 * i) 3 = r_partOf_v fr (Int32.ofNat i) i := (h.2.1 i (by omega)).1.2.1.1
  have pj : fc (18 + 4 * (i + 1)) 3 = r_partOf_v fr (Int32.ofNat i + (1 : Int32)) (i + 1) := (h.2.1 (i + 1) hi).1.2.1.1
  have bi : 0 ≤ (r_partOf_v fr (Int32.ofNat i) i).toInt ∧ (r_partOf_v fr (Int32.ofNat i) i).toInt ≤ 1000 := t2_ckp (h.2.1 i (by omega)).2.2
  have bj : 0 ≤ (r_partOf_v fr (Int32.ofNat i + (1 : Int32)) (i + 1)).toInt ∧ (r_partOf_v fr (Int32.ofNat i + (1 : Int32)) (i + 1)).toInt ≤ 1000 := t2_ckp (h.2.1 (i + 1) hi).2.2
  have hG := r_shuttle_sh (f := fr) (c := Int32.ofNat i) (C := i)
  rw [c0_shuttle_sh, hs14, pi, pj]
  have hd : (r_partOf_v fr (Int32.ofNat i) i - r_partOf_v fr (Int32.ofNat i + (1 : Int32)) (i + 1)).toInt = (r_partOf_v fr (Int32.ofNat i) i).toInt - (r_partOf_v fr (Int32.ofNat i + (1 : Int32)) (i + 1)).toInt := at_sub32 (by omega) (by omega)
  by_cases h1 : (fr 280 48).toInt < (r_size_v (r_partOf_v fr (Int32.ofNat i) i - r_partOf_v fr (Int32.ofNat i + (1 : Int32)) (i + 1))).toInt
  · rw [if_pos h1] at hG
    have h1' : (fr 280 48).toInt < (t2_abs_v (r_partOf_v fr (Int32.ofNat i) i - r_partOf_v fr (Int32.ofNat i + (1 : Int32)) (i + 1))).toInt := h1
    rw [if_pos h1']
    by_cases h2 : 0 < (r_partOf_v fr (Int32.ofNat i) i - r_partOf_v fr (Int32.ofNat i + (1 : Int32)) (i + 1)).toInt
    · rw [if_pos h2] at hG
      rw [if_pos (by omega)]
      exact c0_sh_eq (by omega) hi (by omega) h hG
    · rw [if_neg h2] at hG
      rw [if_neg (by omega)]
      exact c0_sh_eq hi (by omega) (by omega) h hG
  · rw [if_neg h1] at hG
    have h1' : ¬ (fr 280 48).toInt < (t2_abs_v (r_partOf_v fr (Int32.ofNat i) i - r_partOf_v fr (Int32.ofNat i + (1 : Int32)) (i + 1))).toInt := h1
    rw [if_neg h1']
    exact h.congrG hG
theorem c0_given {b : Int32} (hc : (fc 1 5).toInt.toNat = n) (hn : n ≤ 16) (F0 : c0_shuntCells_f95 fc 0 = fl_row fc 1 (upd (fc 1) 16 b)) : c0_GI fc (c0_shuntCells_m fc) b n n := by
  have gi : ∀ k : Nat, k ≤ n → c0_GI fc (c0_shuntCells_f95 fc k) b n k := by
    intro k
    induction k with
    | zero =>
      intro _
      rw [F0]
      refine ⟨fun C h => ⟨fun q => absurd q.1 (Nat.not_lt_zero C), fun _ => fl_row_ne (by omega)⟩, ?_, ?_, ?_, fun j j1 j2 j3 => ?_, fl_row_ne (by decide)⟩
      · rw [fl_row_self, upd_ne (by decide), t2_sb_z, Int32.add_zero]
      · rw [fl_row_self, upd_ne (by decide), t2_sb_z, Int32.add_zero]
      · rw [fl_row_self, upd_self]
      · rw [fl_row_self, upd_ne j3]
    | succ k ih =>
      intro hk
      unfold c0_shuntCells_f95
      exact c0_GI_step hn (by omega) (ih (by omega))
  have m : c0_shuntCells_m fc = c0_shuntCells_f95 fc n := by
    unfold c0_shuntCells_m
    rw [hc]
  rw [m]
  exact gi n (Nat.le_refl n)
theorem c0_chosen0 {b : Int32} (hj : c0_shuntCells_j13_0 fc = r_shuntAll_j24_0 fr) (hl : c0_leastPart_v fc = r_leastPart_v fr) (s14 : fc 4 14 = fr 280 48) (wf : t2_wf (fun f' => c0_shuntCells_g49 f' (c0_shuntCells_j13_0 fc) (r_leastPart_v fr + fr 280 48)) (r_shuntAll_j24_0 fr).toInt.toNat fc = fl_row fc 1 (upd (fc 1) 16 b)) : c0_shuntCells_f95 fc 0 = fl_row fc 1 (upd (fc 1) 16 b) := by
  unfold c0_shuntCells_f95
  rw [← wf, ← hj, hl, s14]
theorem c0_shunt_two (hc : (fc 1 5).toInt.toNat = n) (hg : (fr 280 2).toInt.toNat = n) (hn : n ≤ 16) (h : c0_RB fc fr n) (h16 : fc 1 16 = 0) (ho : 0 ≤ (fr 280 47).toInt ∧ (fr 280 47).toInt ≤ 16) : r_SI fr (r_shuntAll_m fr) n ∧ c0_GI fc (c0_shuntCells_m fc) (r_shuntAll_m fr 280 13) n n := by
  obtain ⟨hs, hC, e14, e15, e11, e13, e16⟩ := h
  have s2 : fc 4 2 = fr 280 36 := hs 2 (by omega)
  have s12 : fc 4 12 = fr 280 46 := hs 12 (by omega)
  have s13 : fc 4 13 = fr 280 47 := hs 13 (by omega)
  have s14 : fc 4 14 = fr 280 48 := hs 14 (by omega)
  have hj : c0_shuntCells_j13_0 fc = r_shuntAll_j24_0 fr := by
    unfold c0_shuntCells_j13_0 r_shuntAll_j24_0
    rw [e11, s2, s13]
  have hl : c0_leastPart_v fc = r_leastPart_v fr := by
    unfold c0_leastPart_v r_leastPart_v
    rw [hc, hg]
    exact c0_least_eq (fun C h => (hC C h).1)
  obtain ⟨si, wf⟩ := c0_chosen (X := (r_shuntAll_j24_0 fr).toInt.toNat) (above := r_leastPart_v fr + fr 280 48) (a := c0_shuntCells_j13_0 fc) (fc := fc) (g0 := fr) hc hn hg (fun C h => (hC C h).1.2.1.1) h16 (e16.symm.trans h16) (Eq.refl _) (Eq.refl _) ho
  exact ⟨si, c0_given hc hn (c0_chosen0 hj hl s14 wf)⟩
theorem c0_shunt_eq (hc : (fc 1 5).toInt.toNat = n) (hg : (fr 280 2).toInt.toNat = n) (hn : n ≤ 16) (h : c0_RB fc fr n) (h16 : fc 1 16 = 0) (ho : 0 ≤ (fr 280 47).toInt ∧ (fr 280 47).toInt ≤ 16) : c0_RB (c0_shuntCells_m fc) (r_shuntAll_m fr) n := by
  obtain ⟨hs, hC, e14, e15, e11, e13, e16⟩ := h
  have s12 : fc 4 12 = fr 280 46 := hs 12 (by omega)
  obtain ⟨si, gi⟩ := c0_shunt_two hc hg hn ⟨hs, hC, e14, e15, e11, e13, e16⟩ h16 ho
  generalize hb : r_shuntAll_m fr 280 13 = b at gi
  obtain ⟨q1, q2, q3, q4, q5, q6⟩ := gi
  obtain ⟨-, p2, p3, p4, p5⟩ := si
  rw [hb] at p2 p4 p5
  refine ⟨fun k hk => ?_, fun C h => ?_, ?_, ?_, ?_, ?_, ?_⟩
  · rw [q6, p3 (34 + k) (by omega) (by omega) (by omega) (fun D hD => ⟨by omega, by omega⟩)]
    exact hs k hk
  · have rC := (hC C h).1
    have capC := (hC C h).2.1
    have go : ∀ w : Nat, w < 61 → w ≠ 1 → w ≠ 4 → r_shuntAll_m fr 280 (444 + 61 * C + w) = fr 280 (444 + 61 * C + w) := fun w hw h1 h4 => p3 _ (by omega) (by omega) (by omega) (fun D hD => ⟨by omega, by omega⟩)
    by_cases hbt : t2_bt b C = true
    · obtain ⟨x2, x3, x4, x8, xo⟩ := (q1 C h).1 ⟨h, hbt⟩
      obtain ⟨y1, y4⟩ := (p2 C h).1 hbt
      have k := c0_Rc_new (F := c0_shuntCells_m fc) (G := r_shuntAll_m fr) rC capC (by rw [x2, y1, ← rC.1.2.2, ← rC.1.1, t2_les, s12, t2_m32 (3600 : Int32)]; rfl) x3 x4 (by rw [x8, y4, ← rC.2.2.2.1, ← rC.1.1, s12, t2_m32 (3600 : Int32)]; rfl) xo go
      exact ⟨k.1, k.2, c0_ck_held (hC C h).2.2.1 (go 0 (by decide) (by decide) (by decide)) y1⟩
    · have x := (q1 C h).2 (fun q => hbt q.2)
      obtain ⟨y1, y4⟩ := (p2 C h).2 (by cases e : t2_bt b C with | true => exact absurd e hbt | false => rfl)
      have eg : ∀ k : Nat, k < 61 → r_shuntAll_m fr 280 (444 + 61 * C + k) = fr 280 (444 + 61 * C + k) := fun k hk => by
        by_cases k1 : k = 1
        · rw [k1]; exact y1
        · by_cases k4 : k = 4
          · rw [k4]; exact y4
          · exact go k hk k1 k4
      exact ⟨rC.congr x eg, by rw [x]; exact capC, c0_ck_congr (hC C h).2.2 (eg 0 (by decide)) (eg 1 (by decide))⟩
  · rw [q5 14 (by decide) (by decide) (by decide), p3 11 (by decide) (by decide) (by decide) (fun D hD => ⟨by omega, by omega⟩), e14]
  · rw [q5 15 (by decide) (by decide) (by decide), p3 12 (by decide) (by decide) (by decide) (fun D hD => ⟨by omega, by omega⟩), e15]
  · rw [q3, p4, e11]
  · have ev : ∀ k : Nat, k ≤ n → t2_sb b (fun C => t2_min_v (fc 4 12) (fc (18 + 4 * C) 2)) k = t2_sb b (fun C => r_lesser_v (fr 280 46) (fr 280 (444 + 61 * C + 1))) k := by
      intro k
      induction k with
      | zero => intro _; rw [t2_sb_z, t2_sb_z]
      | succ k ih =>
        intro hk
        unfold t2_sb
        rw [ih (by omega), t2_les, s12, (hC k (by omega)).1.1.2.2]
    rw [q2, p5, e13, ev n (Nat.le_refl n)]
  · rw [q4, hb]
theorem c0_balance_eq (hc : (fc 1 5).toInt.toNat = n) (hg : (fr 280 2).toInt.toNat = n) (hn : n ≤ 16) (h : c0_RB fc fr n) (hl : fc 10 3 = fr 280 6) (ht : fc 1 6 = fr 280 7) (ho : 0 ≤ (fr 280 47).toInt ∧ (fr 280 47).toInt ≤ 16) : c0_RB (c0_balance_m fc) (r_goBalance_m fr) n := by
  have c1 : (1 : Int32).toInt = 1 := by decide +kernel
  have c2 : (2 : Int32).toInt = 2 := by decide +kernel
  have s11 : fc 4 11 = fr 280 45 := h.1 11 (by omega)
  have hz : c0_RB (fl_row fc 1 (upd (fc 1) 16 (0 : Int32))) (fl_row (fl_row fr 280 (upd (fr 280) 13 (0 : Int32))) 277 (upd (fr 277) 6 (0 : Int32))) n := by
    obtain ⟨hs, hC, e14, e15, e11, e13, e16⟩ := h
    have g : ∀ w : Nat, w ≠ 13 → (fl_row (fl_row fr 280 (upd (fr 280) 13 (0 : Int32))) 277 (upd (fr 277) 6 (0 : Int32))) 280 w = fr 280 w := fun w hw => by rw [fl_row_ne (by decide), fl_row_self, upd_ne hw]
    refine ⟨hs.congr (fl_row_ne (by decide)) (fun k hk => g _ (by omega)), fun C hC' => ⟨(hC C hC').1.congr (fl_row_ne (by omega)) (fun k hk => g _ (by omega)), by rw [fl_row_ne (by omega)]; exact (hC C hC').2.1, c0_ck_congr (hC C hC').2.2 (g _ (by omega)) (g _ (by omega))⟩, ?_, ?_, ?_, ?_, ?_⟩
    · rw [g 11 (by decide), fl_row_self, upd_ne (by decide), e14]
    · rw [g 12 (by decide), fl_row_self, upd_ne (by decide), e15]
    · rw [g 8 (by decide), fl_row_self, upd_ne (by decide), e11]
    · rw [g 10 (by decide), fl_row_self, upd_ne (by decide), e13]
    · rw [fl_row_self, upd_self, fl_row_ne (by decide), fl_row_self, upd_self]
  unfold c0_balance_m r_goBalance_m
  rw [hl, s11]
  by_cases h6 : (fr 280 6).toInt = 0
  · rw [if_pos h6, if_pos h6]
    by_cases m1 : (fr 280 45).toInt = (1 : Int32).toInt
    · rw [if_pos m1, if_neg (show ¬ (fr 280 45).toInt = (2 : Int32).toInt by omega), if_pos m1]
      refine c0_shunt_eq ?_ ?_ hn hz ?_ ?_
      · rw [fl_row_self, upd_ne (by decide)]
        exact hc
      · rw [fl_row_ne (by decide), fl_row_self, upd_ne (by decide)]
        exact hg
      · rw [fl_row_self, upd_self]
      · rw [fl_row_ne (by decide), fl_row_self, upd_ne (by decide)]
        exact ho
    · rw [if_neg m1]
      by_cases m2 : (fr 280 45).toInt = (2 : Int32).toInt
      · rw [if_pos m2, if_pos m2]
        have ej : c0_balance_j58_0 fc = r_goBalance_j48_0 fr := by
          unfold c0_balance_j58_0 r_goBalance_j48_0
          rw [ht]
        have loop : ∀ k : Nat, k ≤ (n - (r_goBalance_j48_0 fr).toInt.toNat) / 2 → c0_RB (c0_balance_f67 fc k) (r_goBalance_f57 fr k) n := by
          intro k
          induction k with
          | zero =>
            intro _
            show c0_RB (fl_row fc 1 (upd (fc 1) 16 (0 : Int32))) (if (fr 280 45).toInt = (1 : Int32).toInt then _ else _) n
            rw [if_neg m1]
            exact hz
          | succ k ih =>
            intro hk
            show c0_RB (c0_shuttle_m (c0_balance_f67 fc k) ((c0_balance_j58_0 fc).toInt.toNat + 2 * k)) (r_shuttle_m (r_goBalance_f57 fr k) (Int32.ofNat ((r_goBalance_j48_0 fr).toInt.toNat + 2 * k)) ((r_goBalance_j48_0 fr).toInt.toNat + 2 * k)) n
            rw [ej]
            exact c0_shuttle_eq (by omega) (ih (by omega))
        rw [hc, hg, ej]
        exact loop _ (Nat.le_refl _)
      · rw [if_neg m2, if_neg m2, if_neg m1]
        exact hz
  · rw [if_neg h6, if_neg h6]
    exact hz
end C0BAL

end

/-! 94.06.num6.lean.txt -/
section
/-! ===== what a rest tells: numbers ===== -/
theorem t2_chg {P c : Int32} (hP : 0 ≤ P.toInt ∧ P.toInt ≤ 1000) (hc : t2_cap c) : (t2_chargeBy_v P c).toInt = P.toInt * c.toInt * 36 / 10 ∧ 0 ≤ (t2_chargeBy_v P c).toInt ∧ (t2_chargeBy_v P c).toInt ≤ 3600 * c.toInt ∧ ((((36 : Int64) * P.toInt64) * c.toInt64) / (10 : Int64)).toInt32 = t2_chargeBy_v P c := by
  have c36 : (36 : Int32).toInt = 36 := by decide +kernel
  have c10 : (10 : Int32).toInt = 10 := by decide +kernel
  have d36 : (36 : Int64).toInt = 36 := by decide +kernel
  have d10 : (10 : Int64).toInt = 10 := by decide +kernel
  have hc1 := hc.1
  have hc2 := hc.2
  have hq : 0 ≤ P.toInt * c.toInt := Int.mul_nonneg hP.1 (by omega)
  have hq2 : P.toInt * c.toInt ≤ 1000 * c.toInt := Int.mul_le_mul_of_nonneg_right hP.2 (by omega)
  have e1 : (P * c).toInt = P.toInt * c.toInt := at_mul32 (by omega) (by omega)
  have e2 : (P * c * (36 : Int32)).toInt = P.toInt * c.toInt * 36 := by
    rw [at_mul32 (by rw [e1, c36]; omega) (by rw [e1, c36]; omega), e1, c36]
  have e3 : (t2_chargeBy_v P c).toInt = P.toInt * c.toInt * 36 / 10 := by
    unfold t2_chargeBy_v
    rw [at_div32 (by omega) (by omega), e2, c10]
  have f1 : ((36 : Int64) * P.toInt64).toInt = 36 * P.toInt := by
    rw [Int64.toInt_mul, t2_i64, d36]
    exact Int.bmod_eq_of_le (by omega) (by omega)
  have eq36 : 36 * P.toInt * c.toInt = P.toInt * c.toInt * 36 := by rw [Int.mul_assoc, Int.mul_comm]
  have f2 : (((36 : Int64) * P.toInt64) * c.toInt64).toInt = P.toInt * c.toInt * 36 := by
    rw [Int64.toInt_mul, t2_i64, f1, eq36]
    exact Int.bmod_eq_of_le (by omega) (by omega)
  have f3 : ((((36 : Int64) * P.toInt64) * c.toInt64) / (10 : Int64)).toInt = P.toInt * c.toInt * 36 / 10 := by
    rw [Int64.toInt_div, f2, d10, Int.tdiv_eq_ediv_of_nonneg (by omega)]
    exact Int.bmod_eq_of_le (by omega) (by omega)
  refine ⟨e3, by omega, by omega, Int32.toInt.inj ?_⟩
  rw [Int64.toInt_toInt32, f3, e3]
  exact Int.bmod_eq_of_le (by omega) (by omega)
theorem t2_gue {w y : Int32} (hw : 0 ≤ w.toInt ∧ w.toInt ≤ 1001) : ((1000 : Int64) * y.toInt64) / ((3600 : Int32) * w).toInt64 = (y.toInt64 * (1000 : Int64)) / (w.toInt64 * (3600 : Int64)) := by
  have c36 : (3600 : Int32).toInt = 3600 := by decide +kernel
  have d36 : (3600 : Int64).toInt = 3600 := by decide +kernel
  have e1 : (1000 : Int64) * y.toInt64 = y.toInt64 * (1000 : Int64) := Int64.mul_comm _ _
  have e2 : ((3600 : Int32) * w).toInt64 = w.toInt64 * (3600 : Int64) := by
    apply Int64.toInt.inj
    rw [t2_i64, at_mul32 (by rw [c36]; omega) (by rw [c36]; omega), c36, Int64.toInt_mul, t2_i64, d36]
    rw [Int.bmod_eq_of_le (by omega) (by omega)]
    omega
  rw [e1, e2]
theorem t2_abs_d {p q : Int32} (hp : 0 ≤ p.toInt ∧ p.toInt ≤ 1000) (hw : -1 ≤ q.toInt ∧ q.toInt ≤ 1000) : 0 ≤ (t2_abs_v (p - q)).toInt ∧ (t2_abs_v (p - q)).toInt ≤ 1001 := by
  have e : (p - q).toInt = p.toInt - q.toInt := at_sub32 (by omega) (by omega)
  have e2 : (-(p - q)).toInt = -(p.toInt - q.toInt) := by
    rw [Int32.toInt_neg, e]
    exact Int.bmod_eq_of_le (by omega) (by omega)
  unfold t2_abs_v
  split <;> omega
theorem t2_held_id {v y : Int32} (h0 : 0 ≤ v.toInt) (h1 : v.toInt ≤ y.toInt) : t2_heldTo_v v (0 : Int32) y = v := by
  have e0 : (0 : Int32).toInt = 0 := rfl
  unfold t2_heldTo_v
  rw [if_neg (by omega), if_neg (by omega)]
/-! the reference, a cell by its words, (6) -/
section R6
variable {g : t2_F} {k C : Nat} {z c : Int32}
theorem r_b17_w : r_goMeasure_b17_m g z k 280 (444 + 61 * k + 11) = r_goMeasure_b17_j41_0 g z k ∧ r_goMeasure_b17_m g z k 280 (444 + 61 * k + 14) = r_voltsOf_v g (Int32.ofNat k) k ∧ r_goMeasure_b17_m g z k 280 (444 + 61 * k + 15) = (1 : Int32) ∧ r_goMeasure_b17_m g z k 280 (444 + 61 * k + 13) = g 280 (444 + 61 * k + 13) + g 280 5 := by
  unfold r_goMeasure_b17_m
  refine ⟨?_, ?_, ?_, ?_⟩ <;> simp (disch := omega) only [fl_row_self, upd_self, upd_ne]
theorem r_rest_w : r_restNow_m g c C 280 (444 + 61 * C + 4) = r_chargeAt_v g c C (t2_pb (r_voltsOf_v g c C)) ∧ r_restNow_m g c C 280 (444 + 61 * C + 12) = r_restNow_j32_0 g c C ∧ r_restNow_m g c C 280 (444 + 61 * C + 16) = t2_pb (r_voltsOf_v g c C) ∧ r_restNow_m g c C 280 (444 + 61 * C + 13) = 0 := by
  unfold r_restNow_m
  refine ⟨?_, ?_, ?_, ?_⟩ <;> simp (disch := omega) only [fl_row_self, upd_self, upd_ne]
theorem r_volts_c {f f' : t2_F} (h5 : f' 280 5 = f 280 5) (h0 : f' 280 (444 + 61 * C + 0) = f 280 (444 + 61 * C + 0)) (h1 : f' 280 (444 + 61 * C + 1) = f 280 (444 + 61 * C + 1)) (h2 : f' 280 (444 + 61 * C + 2) = f 280 (444 + 61 * C + 2)) (h9 : f' 280 (444 + 61 * C + 9) = f 280 (444 + 61 * C + 9)) : r_voltsOf_v f' c C = r_voltsOf_v f c C := by
  unfold r_voltsOf_v r_calmVolts_v r_partOf_v
  rw [h5, h0, h1, h2, h9]
theorem r_pack_c {f f' : t2_F} {n : Nat} (h5 : f' 280 5 = f 280 5) (h : ∀ C : Nat, C < n → ∀ w : Nat, (w = 0 ∨ w = 1 ∨ w = 2 ∨ w = 9) → f' 280 (444 + 61 * C + w) = f 280 (444 + 61 * C + w)) : r_pack_a4 f' n = r_pack_a4 f n := by
  induction n with
  | zero => rfl
  | succ n ih =>
    show r_pack_a4 f' n + r_voltsOf_v f' (Int32.ofNat n) n = r_pack_a4 f n + r_voltsOf_v f (Int32.ofNat n) n
    rw [ih (fun C hC => h C (by omega)), r_volts_c h5 (h n (by omega) 0 (by omega)) (h n (by omega) 1 (by omega)) (h n (by omega) 2 (by omega)) (h n (by omega) 9 (by omega))]
/-! a cell behind the first loop -/
theorem r_f17_in {f : t2_F} {w : Nat} (hw : w < 61) : ∀ {k : Nat}, C < k → r_goMeasure_f17 f k 280 (444 + 61 * C + w) = r_goMeasure_b17_m (r_goMeasure_f17 f C) ((f 280 5) - (f 280 14)) C 280 (444 + 61 * C + w) := by
  intro k
  induction k with
  | zero => intro h; exact absurd h (Nat.not_lt_zero _)
  | succ k ih =>
    intro h
    by_cases e : C = k
    · subst e
      rfl
    · exact (r_goMeasure_b17_w (f := r_goMeasure_f17 f k) (k := k) (w := 444 + 61 * C + w) (by omega) (by omega) (by omega) (by omega)).trans (ih (by omega))
theorem r_f17_me {f : t2_F} {w : Nat} (hw : w < 61) : r_goMeasure_f17 f C 280 (444 + 61 * C + w) = f 280 (444 + 61 * C + w) := r_goMeasure_f17_w (k := C) (fun j hj => by omega) (fun j hj => by omega) (fun j hj => by omega) (fun j hj => by omega)
theorem r_f17_lo {f : t2_F} {k w : Nat} (hw : w < 444) : r_goMeasure_f17 f k 280 w = f 280 w := r_goMeasure_f17_w (k := k) (fun j hj => by omega) (fun j hj => by omega) (fun j hj => by omega) (fun j hj => by omega)
theorem r_f17_o {f : t2_F} {k w : Nat} (hw : w < 61) (h1 : w ≠ 11) (h2 : w ≠ 14) (h3 : w ≠ 15) (h4 : w ≠ 13) : r_goMeasure_f17 f k 280 (444 + 61 * C + w) = f 280 (444 + 61 * C + w) := r_goMeasure_f17_w (k := k) (fun j hj => by omega) (fun j hj => by omega) (fun j hj => by omega) (fun j hj => by omega)
theorem r_f17_w {f : t2_F} (hC : C < k) : r_goMeasure_f17 f k 280 (444 + 61 * C + 11) = r_goMeasure_b17_j41_0 f ((f 280 5) - (f 280 14)) C ∧ r_goMeasure_f17 f k 280 (444 + 61 * C + 14) = r_voltsOf_v f (Int32.ofNat C) C ∧ r_goMeasure_f17 f k 280 (444 + 61 * C + 15) = (1 : Int32) ∧ r_goMeasure_f17 f k 280 (444 + 61 * C + 13) = f 280 (444 + 61 * C + 13) + f 280 5 := by
  obtain ⟨h1, h2, h3, h4⟩ := r_b17_w (g := r_goMeasure_f17 f C) (z := (f 280 5) - (f 280 14)) (k := C)
  have ev : r_voltsOf_v (r_goMeasure_f17 f C) (Int32.ofNat C) C = r_voltsOf_v f (Int32.ofNat C) C := r_volts_c (r_f17_lo (by decide)) (r_f17_me (by decide)) (r_f17_me (by decide)) (r_f17_me (by decide)) (r_f17_me (by decide))
  refine ⟨?_, ?_, ?_, ?_⟩
  · rw [r_f17_in (by decide) hC, h1]
    unfold r_goMeasure_b17_j41_0
    rw [ev, r_f17_me (by decide), r_f17_me (by decide), r_f17_me (by decide)]
  · rw [r_f17_in (by decide) hC, h2, ev]
  · rw [r_f17_in (by decide) hC, h3]
  · rw [r_f17_in (by decide) hC, h4, r_f17_me (by decide), r_f17_lo (by decide)]
/-! and behind the second -/
theorem r_f163_in {f : t2_F} {w : Nat} (hw : w < 61) : ∀ {k : Nat}, C < k → r_goMeasure_f163 f k 280 (444 + 61 * C + w) = r_restNow_m (r_goMeasure_f163 f C) (Int32.ofNat C) C 280 (444 + 61 * C + w) := by
  intro k
  induction k with
  | zero => intro h; exact absurd h (Nat.not_lt_zero _)
  | succ k ih =>
    intro h
    by_cases e : C = k
    · subst e
      rfl
    · exact (r_goMeasure_b163_w (f := r_goMeasure_f163 f k) (z := (f 280 5) - (f 280 14)) (k := k) (w := 444 + 61 * C + w) (by omega) (by omega) (by omega) (by omega)).trans (ih (by omega))
theorem r_f163_me {f : t2_F} {w : Nat} (hw : w < 61) : r_goMeasure_f163 f C 280 (444 + 61 * C + w) = r_goMeasure_f17 f ((f 280 2).toInt.toNat) 280 (444 + 61 * C + w) := by
  rw [r_goMeasure_f163_w (k := C) (fun j hj => by omega) (fun j hj => by omega) (fun j hj => by omega) (fun j hj => by omega), fl_row_self, upd_ne (by omega), upd_ne (by omega)]
theorem r_f163_lo {f : t2_F} {k w : Nat} (hw : w < 444) (h9 : w ≠ 9) (h14 : w ≠ 14) : r_goMeasure_f163 f k 280 w = f 280 w := by
  rw [r_goMeasure_f163_w (k := k) (fun j hj => by omega) (fun j hj => by omega) (fun j hj => by omega) (fun j hj => by omega), fl_row_self, upd_ne h9, upd_ne h14, r_f17_lo hw]
theorem r_f163_o {f : t2_F} {k w : Nat} (hw : w < 61) (h1 : w ≠ 4) (h2 : w ≠ 12) (h3 : w ≠ 16) (h4 : w ≠ 13) : r_goMeasure_f163 f k 280 (444 + 61 * C + w) = r_goMeasure_f17 f ((f 280 2).toInt.toNat) 280 (444 + 61 * C + w) := by
  rw [r_goMeasure_f163_w (k := k) (fun j hj => by omega) (fun j hj => by omega) (fun j hj => by omega) (fun j hj => by omega), fl_row_self, upd_ne (by omega), upd_ne (by omega)]
end R6

end

/-! 94.07.meas.lean.txt -/
section
/-! ===== block 0: (6) of a second ===== -/
section C0MEAS
variable {fc fr f F G : t2_F} {C n k : Nat} {c x y z : Int32}
theorem c0_meas_w : c0_measure_m f C x y (18 + 4 * C) 14 = c0_measure_j15_0 f C x y ∧ c0_measure_m f C x y (18 + 4 * C) 11 = c0_voltsAt_v f C x ∧ c0_measure_m f C x y (18 + 4 * C) 16 = f (18 + 4 * C) 16 + x ∧ ∀ j : Nat, j ≠ 11 → j ≠ 14 → j ≠ 16 → c0_measure_m f C x y (18 + 4 * C) j = f (18 + 4 * C) j := by
  unfold c0_measure_m
  refine ⟨?_, ?_, ?_, fun j h1 h2 h3 => ?_⟩ <;> simp (disch := omega) only [fl_row_self, upd_self, upd_ne]
theorem c0_rest_w {P : Int32} (hP : t2_pb (c0_voltsAt_v f C (0 : Int32)) = P) : c0_reckonAtRest_m f C (18 + 4 * C) 8 = t2_heldTo_v (t2_chargeBy_v P (f (18 + 4 * C) 0)) (0 : Int32) (f (18 + 4 * C) 0 * (3600 : Int32)) ∧
    c0_reckonAtRest_m f C (18 + 4 * C) 15 = (if (f (18 + 4 * C) 17).toInt = (-1 : Int32).toInt then f (18 + 4 * C) 15 else (if (t2_abs_v (P - f (18 + 4 * C) 17)).toInt < (100 : Int32).toInt then f (18 + 4 * C) 15 else ((((t2_abs_v (f (18 + 4 * C) 16)).toInt64) * (1000 : Int64)) / (((t2_abs_v (P - f (18 + 4 * C) 17)).toInt64) * (3600 : Int64))).toInt32)) ∧
    c0_reckonAtRest_m f C (18 + 4 * C) 17 = P ∧ c0_reckonAtRest_m f C (18 + 4 * C) 16 = 0 ∧ ∀ j : Nat, j ≠ 8 → j ≠ 15 → j ≠ 16 → j ≠ 17 → c0_reckonAtRest_m f C (18 + 4 * C) j = f (18 + 4 * C) j := by
  unfold c0_reckonAtRest_m c0_reckonAtRest_j36_0 c0_putReckoned_m
  simp only [hP]
  refine ⟨?_, ?_, ?_, ?_, fun j h1 h2 h3 h4 => ?_⟩ <;> simp (disch := omega) only [fl_row_self, upd_self, upd_ne]
theorem c0_f46_at : ∀ {k : Nat}, C < k → c0_sMeasure_f46 f k (18 + 4 * C) = c0_sMeasure_b46_m (c0_sMeasure_f46 f C) (c0_sMeasure_j35_0 f) C (18 + 4 * C) := by
  intro k
  induction k with
  | zero => intro h; exact absurd h (Nat.not_lt_zero _)
  | succ k ih =>
    intro h
    by_cases e : C = k
    · subst e
      rfl
    · exact (c0_sMeasure_b46_fr (f := c0_sMeasure_f46 f k) (z := c0_sMeasure_j35_0 f) (k := k) (p := 18 + 4 * C) (by omega)).trans (ih (by omega))
theorem c0_f46_me : c0_sMeasure_f46 f C (18 + 4 * C) = f (18 + 4 * C) := by
  rw [c0_sMeasure_f46_fr (k := C) (fun j hj => by omega), fl_row_ne (by omega)]
theorem c0_f46_p {p : Nat} (h1 : p ≠ 1) (h18 : p < 18) : c0_sMeasure_f46 f k p = f p := by
  rw [c0_sMeasure_f46_fr (k := k) (fun j hj => by omega), fl_row_ne h1]
theorem c0_f46_1 : c0_sMeasure_f46 f k 1 = upd (f 1) 12 (c0_sMeasure_j5_0 f) := by
  rw [c0_sMeasure_f46_fr (k := k) (fun j hj => by omega), fl_row_self]
theorem c0_volts_row {f f' : t2_F} (e : f' (18 + 4 * C) = f (18 + 4 * C)) : c0_voltsAt_v f' C x = c0_voltsAt_v f C x := by
  unfold c0_voltsAt_v
  rw [e]
theorem c0_f46_w0 (hC : C < k) (hz : (c0_sMeasure_j35_0 f).toInt = 0) : c0_sMeasure_f46 f k (18 + 4 * C) 14 = c0_measure_j15_0 f C (f 1 9) (f 1 10) ∧ c0_sMeasure_f46 f k (18 + 4 * C) 11 = c0_voltsAt_v f C (f 1 9) ∧ c0_sMeasure_f46 f k (18 + 4 * C) 16 = f (18 + 4 * C) 16 + f 1 9 ∧ ∀ j : Nat, j ≠ 11 → j ≠ 14 → j ≠ 16 → c0_sMeasure_f46 f k (18 + 4 * C) j = f (18 + 4 * C) j := by
  have e9 : c0_sMeasure_f46 f C 1 9 = f 1 9 := by rw [c0_f46_1, upd_ne (by decide)]
  have e10 : c0_sMeasure_f46 f C 1 10 = f 1 10 := by rw [c0_f46_1, upd_ne (by decide)]
  obtain ⟨h1, h2, h3, h4⟩ := c0_meas_w (f := c0_sMeasure_f46 f C) (C := C) (x := f 1 9) (y := f 1 10)
  rw [c0_f46_at hC]
  unfold c0_sMeasure_b46_m
  rw [if_pos hz, e9, e10]
  refine ⟨?_, ?_, ?_, fun j a b d => ?_⟩
  · rw [h1]
    unfold c0_measure_j15_0
    rw [c0_volts_row c0_f46_me, c0_f46_me]
  · rw [h2, c0_volts_row c0_f46_me]
  · rw [h3, c0_f46_me]
  · rw [h4 j a b d, c0_f46_me]
theorem c0_f46_w1 {P : Int32} (hC : C < k) (hz : ¬ (c0_sMeasure_j35_0 f).toInt = 0) (hP : t2_pb (c0_voltsAt_v f C (0 : Int32)) = P) : c0_sMeasure_f46 f k (18 + 4 * C) 14 = c0_measure_j15_0 f C (f 1 9) (f 1 10) ∧ c0_sMeasure_f46 f k (18 + 4 * C) 11 = c0_voltsAt_v f C (f 1 9) ∧ c0_sMeasure_f46 f k (18 + 4 * C) 16 = 0 ∧ c0_sMeasure_f46 f k (18 + 4 * C) 17 = P ∧
    c0_sMeasure_f46 f k (18 + 4 * C) 8 = t2_heldTo_v (t2_chargeBy_v P (f (18 + 4 * C) 0)) (0 : Int32) (f (18 + 4 * C) 0 * (3600 : Int32)) ∧
    c0_sMeasure_f46 f k (18 + 4 * C) 15 = (if (f (18 + 4 * C) 17).toInt = (-1 : Int32).toInt then f (18 + 4 * C) 15 else (if (t2_abs_v (P - f (18 + 4 * C) 17)).toInt < (100 : Int32).toInt then f (18 + 4 * C) 15 else ((((t2_abs_v (f (18 + 4 * C) 16 + f 1 9)).toInt64) * (1000 : Int64)) / (((t2_abs_v (P - f (18 + 4 * C) 17)).toInt64) * (3600 : Int64))).toInt32)) ∧
    ∀ j : Nat, j ≠ 8 → j ≠ 11 → j ≠ 14 → j ≠ 15 → j ≠ 16 → j ≠ 17 → c0_sMeasure_f46 f k (18 + 4 * C) j = f (18 + 4 * C) j := by
  have e9 : c0_sMeasure_f46 f C 1 9 = f 1 9 := by rw [c0_f46_1, upd_ne (by decide)]
  have e10 : c0_sMeasure_f46 f C 1 10 = f 1 10 := by rw [c0_f46_1, upd_ne (by decide)]
  obtain ⟨h1, h2, h3, h4⟩ := c0_meas_w (f := c0_sMeasure_f46 f C) (C := C) (x := f 1 9) (y := f 1 10)
  have ev : c0_voltsAt_v (c0_measure_m (c0_sMeasure_f46 f C) C (f 1 9) (f 1 10)) C (0 : Int32) = c0_voltsAt_v f C (0 : Int32) := by
    unfold c0_voltsAt_v
    rw [h4 4 (by decide) (by decide) (by decide), h4 7 (by decide) (by decide) (by decide), h4 5 (by decide) (by decide) (by decide), c0_f46_me]
  obtain ⟨r1, r2, r3, r4, r5⟩ := c0_rest_w (f := c0_measure_m (c0_sMeasure_f46 f C) C (f 1 9) (f 1 10)) (C := C) (P := P) (by rw [ev, hP])
  rw [c0_f46_at hC]
  unfold c0_sMeasure_b46_m
  rw [if_neg hz, e9, e10]
  refine ⟨?_, ?_, r4, r3, ?_, ?_, fun j a8 a11 a14 a15 a16 a17 => ?_⟩
  · rw [r5 14 (by decide) (by decide) (by decide) (by decide), h1]
    unfold c0_measure_j15_0
    rw [c0_volts_row c0_f46_me, c0_f46_me]
  · rw [r5 11 (by decide) (by decide) (by decide) (by decide), h2, c0_volts_row c0_f46_me]
  · rw [r1, h4 0 (by decide) (by decide) (by decide), c0_f46_me]
  · rw [r2, h4 17 (by decide) (by decide) (by decide), h4 15 (by decide) (by decide) (by decide), h3, c0_f46_me]
  · rw [r5 j a8 a15 a16 a17, h4 j a11 a14 a16, c0_f46_me]
def c0_Rm (fc fr : t2_F) (C : Nat) : Prop := fc (18 + 4 * C) 14 = fr 280 (444 + 61 * C + 11) ∧ fc (18 + 4 * C) 15 = fr 280 (444 + 61 * C + 12) ∧ fc (18 + 4 * C) 16 = fr 280 (444 + 61 * C + 13) ∧ fc (18 + 4 * C) 17 = fr 280 (444 + 61 * C + 16)
/-- what (6) goes from, of a cell -/
def c0_R6 (fc fr : t2_F) (C : Nat) : Prop := c0_Rc fc fr C ∧ t2_cap (fc (18 + 4 * C) 0) ∧ t2_far (fr 280 5) (fr 280 (444 + 61 * C + 2)) ∧ c0_Rm fc fr C ∧ fc (18 + 4 * C) 10 = fr 280 (444 + 61 * C + 15) ∧ (fr 280 (444 + 61 * C + 15) = 0 ∨ fr 280 (444 + 61 * C + 15) = 1) ∧ (fr 280 (444 + 61 * C + 15) = 1 → fc (18 + 4 * C) 11 = fr 280 (444 + 61 * C + 14)) ∧ -1 ≤ (fr 280 (444 + 61 * C + 16)).toInt ∧ (fr 280 (444 + 61 * C + 16)).toInt ≤ 1000
theorem c0_meas_j15 (h : c0_R6 fc fr C) (hx : fc 1 9 = fr 280 5) (hy : fc 1 10 = fr 280 14) : c0_measure_j15_0 fc C (fc 1 9) (fc 1 10) = r_goMeasure_b17_j41_0 fr ((fr 280 5) - (fr 280 14)) C := by
  obtain ⟨hc, -, hf, hm, h10, h01, h11, -⟩ := h
  have ev := c0_volts_eq (c := Int32.ofNat C) hc hf
  have c1 : (1 : Int32).toInt = 1 := by decide +kernel
  have c0 : (0 : Int32).toInt = 0 := rfl
  unfold c0_measure_j15_0 r_goMeasure_b17_j41_0
  rw [hx, hy, h10, hm.1, ev]
  rcases h01 with e | e
  · rw [e, if_pos c0, if_neg (by omega)]
  · rw [if_neg (show ¬ (fr 280 (444 + 61 * C + 15)).toInt = 0 by rw [e]; omega), if_pos (show (fr 280 (444 + 61 * C + 15)).toInt = (1 : Int32).toInt by rw [e]), h11 e]
    rfl
/-- behind both loops -/
noncomputable def r_mid (f : t2_F) : t2_F := if (r_goMeasure_j144_0 f).toInt = (f 280 53).toInt then r_goMeasure_f163 f ((f 280 2).toInt.toNat) else fl_row (r_goMeasure_f17 f ((f 280 2).toInt.toNat)) 280 (upd (upd ((r_goMeasure_f17 f ((f 280 2).toInt.toNat)) 280) 14 (f 280 5)) 9 (r_goMeasure_j144_0 f))
theorem r_mid_lo {w : Nat} (hw : w < 444) (h9 : w ≠ 9) (h14 : w ≠ 14) : r_mid fr 280 w = fr 280 w := by
  unfold r_mid
  split
  · exact r_f163_lo hw h9 h14
  · rw [fl_row_self, upd_ne h9, upd_ne h14, r_f17_lo hw]
theorem r_mid_9 : r_mid fr 280 9 = r_goMeasure_j144_0 fr ∧ r_mid fr 280 14 = fr 280 5 := by
  unfold r_mid
  split
  · rw [r_goMeasure_f163_w (fun j hj => by omega) (fun j hj => by omega) (fun j hj => by omega) (fun j hj => by omega), r_goMeasure_f163_w (fun j hj => by omega) (fun j hj => by omega) (fun j hj => by omega) (fun j hj => by omega), fl_row_self, upd_self, upd_ne (by decide), upd_self]
    exact ⟨rfl, rfl⟩
  · rw [fl_row_self, upd_self, upd_ne (by decide), upd_self]
    exact ⟨rfl, rfl⟩
theorem r_mid_s {w : Nat} (hw : w = 0 ∨ w = 1 ∨ w = 2 ∨ w = 3 ∨ w = 5 ∨ w = 6 ∨ w = 9 ∨ w = 60) : r_mid fr 280 (444 + 61 * C + w) = fr 280 (444 + 61 * C + w) := by
  unfold r_mid
  split
  · rw [r_f163_o (by omega) (by omega) (by omega) (by omega) (by omega), r_f17_o (by omega) (by omega) (by omega) (by omega) (by omega)]
  · rw [fl_row_self, upd_ne (by omega), upd_ne (by omega), r_f17_o (by omega) (by omega) (by omega) (by omega) (by omega)]
theorem r_goMeasure_mid : r_goMeasure_m fr = fl_row (r_mid fr) 280 (upd (r_mid fr 280) 4 (if (r_isLive_v (r_mid fr)).toInt = 0 then r_mid fr 280 4 else r_pack_v (r_mid fr))) := by
  unfold r_goMeasure_m r_mid r_goMeasure_j204_0 r_goMeasure_j204_1
  by_cases h : (r_goMeasure_j144_0 fr).toInt = (fr 280 53).toInt
  · simp only [if_pos h]
  · simp only [if_neg h]
    funext q j
    by_cases hq : q = 280
    · subst hq
      simp only [fl_row_self, upd_ne (by decide : (4 : Nat) ≠ 9), upd_ne (by decide : (4 : Nat) ≠ 14)]
    · rw [fl_row_ne hq, fl_row_ne hq, fl_row_ne hq]
theorem r_live_c {f f' : t2_F} (h3 : f' 280 3 = f 280 3) (hk : ∀ k : Nat, k < 3 → f' 280 (64 + k) = f 280 (64 + k)) : r_actual_v f' = r_actual_v f ∧ r_isLive_v f' = r_isLive_v f ∧ r_ordered_v f' = r_ordered_v f := by
  have e : r_ordered_v f' = r_ordered_v f := by
    unfold r_ordered_v r_ordered_j6_0
    rw [h3]
  have a : r_actual_v f' = r_actual_v f := by
    unfold r_actual_v
    simp only [r_actual_a4, hk 0 (by omega), hk 1 (by omega), hk 2 (by omega), e]
  refine ⟨a, ?_, e⟩
  unfold r_isLive_v
  rw [a]
theorem c0_live_c {f f' : t2_F} (h7 : f' 1 7 = f 1 7) (h5 : f' 5 = f 5) : c0_actualBits_v f' = c0_actualBits_v f ∧ (∀ x : Int32, c0_areActual_v f' x = c0_areActual_v f x) ∧ c0_orderedBits_v f' = c0_orderedBits_v f := by
  have e : c0_orderedBits_v f' = c0_orderedBits_v f := by
    unfold c0_orderedBits_v c0_orderedBits_j14_0
    rw [h7]
  have a : c0_actualBits_v f' = c0_actualBits_v f := by
    unfold c0_actualBits_v
    simp only [c0_actualBits_a7, h5, e]
  refine ⟨a, fun x => ?_, e⟩
  unfold c0_areActual_v
  rw [a]
theorem c0_pack_c {f f' : t2_F} {n : Nat} (h : ∀ C : Nat, C < n → ∀ j : Nat, (j = 4 ∨ j = 5 ∨ j = 7) → f' (18 + 4 * C) j = f (18 + 4 * C) j) : c0_packAt_a4 f' x n = c0_packAt_a4 f x n := by
  induction n with
  | zero => rfl
  | succ n ih =>
    show c0_packAt_a4 f' x n + c0_voltsAt_v f' n x = c0_packAt_a4 f x n + c0_voltsAt_v f n x
    rw [ih (fun C hC => h C (by omega))]
    unfold c0_voltsAt_v
    rw [h n (by omega) 4 (by omega), h n (by omega) 5 (by omega), h n (by omega) 7 (by omega)]
/-- (6), a cell behind the loops -/
theorem c0_cell6 (hn : (fr 280 2).toInt.toNat = n) (hC : C < n) (h : c0_R6 fc fr C) (ck : t2_ck fr C) (hx : fc 1 9 = fr 280 5) (hy : fc 1 10 = fr 280 14) (hrst : fc 1 12 = fr 280 9) (hs : c0_Rs fc fr) (hr : 1 ≤ (fr 280 53).toInt) :
    c0_Rc (c0_sMeasure_f46 fc n) (r_mid fr) C ∧ t2_cap (c0_sMeasure_f46 fc n (18 + 4 * C) 0) ∧ c0_Rm (c0_sMeasure_f46 fc n) (r_mid fr) C ∧ c0_sMeasure_f46 fc n (18 + 4 * C) 11 = r_mid fr 280 (444 + 61 * C + 14) ∧ r_mid fr 280 (444 + 61 * C + 15) = 1 ∧ c0_sMeasure_f46 fc n (18 + 4 * C) 10 = fr 280 (444 + 61 * C + 15) ∧ (∀ j : Nat, (j = 4 ∨ j = 5 ∨ j = 7) → c0_sMeasure_f46 fc n (18 + 4 * C) j = fc (18 + 4 * C) j) ∧ t2_ck (r_mid fr) C := by
  have hj := c0_meas_j15 h hx hy
  obtain ⟨hc, hcap, hf, ⟨m14, m15, m16, m17⟩, h10, h01, h11, hb1, hb2⟩ := h
  obtain ⟨⟨a0, a1, a2⟩, ⟨a3, a4⟩, ⟨a5, a6, a7⟩, a8, a9, a18⟩ := id hc
  have ev := c0_volts_eq (c := Int32.ofNat C) hc hf
  have s19 : fc 4 19 = fr 280 53 := hs 19 (by omega)
  have ej : c0_sMeasure_j5_0 fc = r_goMeasure_j144_0 fr := by
    unfold c0_sMeasure_j5_0 r_goMeasure_j144_0
    rw [hx, hrst]
  have P3 : r_partOf_v (r_mid fr) 0 C = r_partOf_v fr 0 C := by
    unfold r_partOf_v
    rw [r_mid_s (by omega), r_mid_s (by omega)]
  obtain ⟨g11, g14, g15, g13⟩ := r_f17_w (f := fr) (C := C) (k := n) hC
  have c1 : (1 : Int32).toInt = 1 := by decide +kernel
  have c0 : (0 : Int32).toInt = 0 := rfl
  have ckm : t2_ck (r_mid fr) C := c0_ck_congr ck (r_mid_s (by omega)) (r_mid_s (by omega))
  by_cases hR : (r_goMeasure_j144_0 fr).toInt = (fr 280 53).toInt
  · -- resting
    have hcur : (fr 280 5).toInt = 0 := by
      apply Classical.byContradiction
      intro q
      unfold r_goMeasure_j144_0 at hR
      rw [if_neg q] at hR
      omega
    have hcur0 : fr 280 5 = 0 := Int32.toInt.inj hcur
    have hz : ¬ (c0_sMeasure_j35_0 fc).toInt = 0 := by
      unfold c0_sMeasure_j35_0
      rw [ej, s19, if_pos hR]
      omega
    have eM : r_mid fr = r_goMeasure_f163 fr n := by
      unfold r_mid
      rw [if_pos hR, hn]
    have evM : ∀ f' : t2_F, (∀ w : Nat, (w = 0 ∨ w = 1 ∨ w = 2 ∨ w = 9) → f' 280 (444 + 61 * C + w) = fr 280 (444 + 61 * C + w)) → f' 280 5 = fr 280 5 → r_voltsOf_v f' (Int32.ofNat C) C = r_voltsOf_v fr (Int32.ofNat C) C := fun f' q q5 => r_volts_c q5 (q 0 (by omega)) (q 1 (by omega)) (q 2 (by omega)) (q 9 (by omega))
    have q163 : ∀ w : Nat, (w = 0 ∨ w = 1 ∨ w = 2 ∨ w = 9) → r_goMeasure_f163 fr C 280 (444 + 61 * C + w) = fr 280 (444 + 61 * C + w) := fun w hw => by
      rw [r_f163_me (by omega), hn, r_f17_o (by omega) (by omega) (by omega) (by omega) (by omega)]
    have eV := evM (r_goMeasure_f163 fr C) q163 (r_f163_lo (by decide) (by decide) (by decide))
    generalize hP : t2_pb (r_voltsOf_v fr (Int32.ofNat C) C) = P
    have hPb : 0 ≤ P.toInt ∧ P.toInt ≤ 1000 := by rw [← hP]; exact t2_pb_b _
    have ev0 : c0_voltsAt_v fc C (0 : Int32) = r_voltsOf_v fr (Int32.ofNat C) C := by rw [← ev, hcur0]
    obtain ⟨w14, w11, w16, w17, w8, w15, wo⟩ := c0_f46_w1 (f := fc) (C := C) (k := n) (P := P) hC hz (by rw [ev0, hP])
    obtain ⟨r4, r12, r16, r13⟩ := r_rest_w (g := r_goMeasure_f163 fr C) (c := Int32.ofNat C) (C := C)
    rw [eV, hP] at r4 r16
    obtain ⟨n1, n2, n3, n4⟩ := t2_chg (P := P) hPb hcap
    have in_ : ∀ w : Nat, w < 61 → r_mid fr 280 (444 + 61 * C + w) = r_restNow_m (r_goMeasure_f163 fr C) (Int32.ofNat C) C 280 (444 + 61 * C + w) := fun w hw => by
      rw [eM, r_f163_in hw hC]
    have cf : (fc (18 + 4 * C) 0 * (3600 : Int32)).toInt = (fc (18 + 4 * C) 0).toInt * 3600 := t2_full_i hcap
    have p8 : c0_sMeasure_f46 fc n (18 + 4 * C) 8 = r_mid fr 280 (444 + 61 * C + 4) := by
      rw [w8, t2_held_id n2 (by omega), in_ 4 (by decide), r4]
      unfold r_chargeAt_v
      rw [q163 0 (by omega), ← a0, n4]
    have p15 : c0_sMeasure_f46 fc n (18 + 4 * C) 15 = r_mid fr 280 (444 + 61 * C + 12) := by
      rw [w15, in_ 12 (by decide), r12]
      unfold r_restNow_j32_0
      rw [eV, hP, r_f163_me (by decide), r_f163_me (by decide), r_f163_me (by decide), hn, r_f17_o (by decide) (by decide) (by decide) (by decide) (by decide), r_f17_o (by decide) (by decide) (by decide) (by decide) (by decide), g13, m17, m15, m16, hx]
      have hw := t2_abs_d (p := P) (q := fr 280 (444 + 61 * C + 16)) hPb ⟨hb1, hb2⟩
      have hg : ((1000 : Int64) * (r_size_v (fr 280 (444 + 61 * C + 13) + fr 280 5)).toInt64) / ((3600 : Int32) * (r_size_v (P - fr 280 (444 + 61 * C + 16)))).toInt64 = (((t2_abs_v (fr 280 (444 + 61 * C + 13) + fr 280 5)).toInt64) * (1000 : Int64)) / (((t2_abs_v (P - fr 280 (444 + 61 * C + 16))).toInt64) * (3600 : Int64)) := t2_gue hw
      rw [hg]
      rfl
    refine ⟨⟨⟨?_, ?_, ?_⟩, ⟨?_, ?_⟩, ⟨?_, ?_, ?_⟩, p8, ?_, ?_⟩, ?_, ⟨?_, p15, ?_, ?_⟩, ?_, ?_, ?_, fun j hj => wo j (by omega) (by omega) (by omega) (by omega) (by omega) (by omega), ckm⟩
    · rw [wo 0 (by decide) (by decide) (by decide) (by decide) (by decide) (by decide), r_mid_s (by omega), a0]
    · rw [wo 1 (by decide) (by decide) (by decide) (by decide) (by decide) (by decide), r_mid_s (by omega), a1]
    · rw [wo 2 (by decide) (by decide) (by decide) (by decide) (by decide) (by decide), r_mid_s (by omega), a2]
    · rw [wo 3 (by decide) (by decide) (by decide) (by decide) (by decide) (by decide), P3, a3]
    · rw [wo 4 (by decide) (by decide) (by decide) (by decide) (by decide) (by decide), P3, a4]
    · rw [wo 5 (by decide) (by decide) (by decide) (by decide) (by decide) (by decide), r_mid_s (by omega), a5]
    · rw [wo 6 (by decide) (by decide) (by decide) (by decide) (by decide) (by decide), r_mid_s (by omega), a6]
    · rw [wo 7 (by decide) (by decide) (by decide) (by decide) (by decide) (by decide), r_mid_s (by omega), a7]
    · rw [wo 9 (by decide) (by decide) (by decide) (by decide) (by decide) (by decide), r_mid_s (by omega), a9]
    · rw [wo 18 (by decide) (by decide) (by decide) (by decide) (by decide) (by decide), r_mid_s (by omega), a18]
    · rw [wo 0 (by decide) (by decide) (by decide) (by decide) (by decide) (by decide)]
      exact hcap
    · rw [w14, hj, eM, r_f163_o (by decide) (by decide) (by decide) (by decide) (by decide), hn, g11]
    · rw [w16, in_ 13 (by decide), r13]
    · rw [w17, in_ 16 (by decide), r16]
    · rw [w11, hx, ev, eM, r_f163_o (by decide) (by decide) (by decide) (by decide) (by decide), hn, g14]
    · rw [eM, r_f163_o (by decide) (by decide) (by decide) (by decide) (by decide), hn, g15]
    · rw [wo 10 (by decide) (by decide) (by decide) (by decide) (by decide) (by decide), h10]
  · have hz : (c0_sMeasure_j35_0 fc).toInt = 0 := by
      unfold c0_sMeasure_j35_0
      rw [ej, s19, if_neg hR]
      exact c0
    have in_ : ∀ w : Nat, w < 61 → r_mid fr 280 (444 + 61 * C + w) = r_goMeasure_f17 fr n 280 (444 + 61 * C + w) := fun w hw => by
      unfold r_mid
      rw [if_neg hR, fl_row_self, upd_ne (by omega), upd_ne (by omega), hn]
    have ino : ∀ w : Nat, w < 61 → w ≠ 11 → w ≠ 14 → w ≠ 15 → w ≠ 13 → r_mid fr 280 (444 + 61 * C + w) = fr 280 (444 + 61 * C + w) := fun w hw x1 x2 x3 x4 => by
      rw [in_ w hw, r_f17_o hw x1 x2 x3 x4]
    obtain ⟨w14, w11, w16, wo⟩ := c0_f46_w0 (f := fc) (C := C) (k := n) hC hz
    refine ⟨⟨⟨?_, ?_, ?_⟩, ⟨?_, ?_⟩, ⟨?_, ?_, ?_⟩, ?_, ?_, ?_⟩, ?_, ⟨?_, ?_, ?_, ?_⟩, ?_, ?_, ?_, fun j hj => wo j (by omega) (by omega) (by omega), ckm⟩
    · rw [wo 0 (by decide) (by decide) (by decide), r_mid_s (by omega), a0]
    · rw [wo 1 (by decide) (by decide) (by decide), r_mid_s (by omega), a1]
    · rw [wo 2 (by decide) (by decide) (by decide), r_mid_s (by omega), a2]
    · rw [wo 3 (by decide) (by decide) (by decide), P3, a3]
    · rw [wo 4 (by decide) (by decide) (by decide), P3, a4]
    · rw [wo 5 (by decide) (by decide) (by decide), r_mid_s (by omega), a5]
    · rw [wo 6 (by decide) (by decide) (by decide), r_mid_s (by omega), a6]
    · rw [wo 7 (by decide) (by decide) (by decide), r_mid_s (by omega), a7]
    · rw [wo 8 (by decide) (by decide) (by decide), ino 4 (by decide) (by decide) (by decide) (by decide) (by decide), a8]
    · rw [wo 9 (by decide) (by decide) (by decide), r_mid_s (by omega), a9]
    · rw [wo 18 (by decide) (by decide) (by decide), r_mid_s (by omega), a18]
    · rw [wo 0 (by decide) (by decide) (by decide)]
      exact hcap
    · rw [w14, hj, in_ 11 (by decide), g11]
    · rw [wo 15 (by decide) (by decide) (by decide), ino 12 (by decide) (by decide) (by decide) (by decide) (by decide), m15]
    · rw [w16, in_ 13 (by decide), g13, m16, hx]
    · rw [wo 17 (by decide) (by decide) (by decide), ino 16 (by decide) (by decide) (by decide) (by decide) (by decide), m17]
    · rw [w11, hx, ev, in_ 14 (by decide), g14]
    · rw [in_ 15 (by decide), g15]
    · rw [wo 10 (by decide) (by decide) (by decide), h10]
end C0MEAS

end

/-! 94.08.tap.lean.txt -/
section
/-! ===== block 0: (6) of a second, whole: taper ===== -/
section C0TAP
variable {fc fr f F G : t2_F} {C n k : Nat} {c x y z : Int32}
theorem c0_taper_none : ∀ k : Nat, (∀ C : Nat, C < k → (c0_voltsAt_v f C (f 1 9)).toInt < (f 4 23).toInt) → c0_taper_e33 f k = none := by
  intro k
  induction k with
  | zero => intro _; rfl
  | succ k ih =>
    intro h
    unfold c0_taper_e33
    rw [ih (fun C hC => h C (by omega))]
    show (if _ then _ else _) = _
    rw [if_pos (h k (by omega))]
theorem c0_taper_some : ∀ k : Nat, (∃ C : Nat, C < k ∧ ¬ (c0_voltsAt_v f C (f 1 9)).toInt < (f 4 23).toInt) → c0_taper_e33 f k = some (fl_row f 4 (upd (f 4) 20 (if (((f 4 20) * (9 : Int32)) / (10 : Int32)).toInt < (100 : Int32).toInt then (0 : Int32) else ((f 4 20) * (9 : Int32)) / (10 : Int32)))) := by
  intro k
  induction k with
  | zero => rintro ⟨C, h, -⟩; exact absurd h (Nat.not_lt_zero C)
  | succ k ih =>
    rintro ⟨C, h1, h2⟩
    unfold c0_taper_e33
    by_cases hl : ∃ C : Nat, C < k ∧ ¬ (c0_voltsAt_v f C (f 1 9)).toInt < (f 4 23).toInt
    · rw [ih hl]
    · rw [c0_taper_none k (fun D hD => Classical.byContradiction (fun q => hl ⟨D, hD, q⟩))]
      have e : C = k := by
        apply Classical.byContradiction
        intro q
        exact hl ⟨C, by omega, h2⟩
      subst e
      show (if _ then _ else _) = _
      rw [if_neg h2]
theorem r_taper_a : ∀ k : Nat, ((∃ C : Nat, C < k ∧ ¬ (r_voltsOf_v f (Int32.ofNat C) C).toInt < (f 280 57).toInt) → r_goTaper_a4 f k = 1) ∧ ((∀ C : Nat, C < k → (r_voltsOf_v f (Int32.ofNat C) C).toInt < (f 280 57).toInt) → r_goTaper_a4 f k = 0) := by
  have c1 : (1 : Int32).toInt = 1 := by decide +kernel
  have c0 : (0 : Int32).toInt = 0 := rfl
  intro k
  induction k with
  | zero => exact ⟨fun ⟨C, h, _⟩ => absurd h (Nat.not_lt_zero C), fun _ => rfl⟩
  | succ k ih =>
    refine ⟨fun ⟨C, h1, h2⟩ => ?_, fun h => ?_⟩
    · unfold r_goTaper_a4
      by_cases hl : ∃ C : Nat, C < k ∧ ¬ (r_voltsOf_v f (Int32.ofNat C) C).toInt < (f 280 57).toInt
      · rw [ih.1 hl, if_neg (by omega)]
      · rw [ih.2 (fun D hD => Classical.byContradiction (fun q => hl ⟨D, hD, q⟩)), if_pos c0]
        have e : C = k := by
          apply Classical.byContradiction
          intro q
          exact hl ⟨C, by omega, h2⟩
        subst e
        rw [if_neg h2]
    · unfold r_goTaper_a4
      rw [ih.2 (fun D hD => h D (by omega)), if_pos c0, if_pos (h k (by omega))]
/-- the two tapers, where all that they read is the same -/
theorem c0_taper_eq {g : t2_F} (hn : (f 1 5).toInt.toNat = n) (hg : (g 280 2).toInt.toNat = n) (hs : c0_Rs f g) (hst : f 1 7 = g 280 3) (hv : ∀ C : Nat, C < n → c0_voltsAt_v f C (f 1 9) = r_voltsOf_v g (Int32.ofNat C) C) (ht : 0 ≤ (g 280 57).toInt) :
    c0_Rs (if (f 1 7).toInt = (2 : Int32).toInt then c0_taper_m f else f) (r_goTaper_m g) ∧ (∀ p : Nat, p ≠ 4 → (if (f 1 7).toInt = (2 : Int32).toInt then c0_taper_m f else f) p = f p) ∧ (∀ w : Nat, w ≠ 54 → r_goTaper_m g 280 w = g 280 w) := by
  have c1 : (1 : Int32).toInt = 1 := by decide +kernel
  have c0 : (0 : Int32).toInt = 0 := rfl
  have s20 : f 4 20 = g 280 54 := hs 20 (by omega)
  have s23 : f 4 23 = g 280 57 := hs 23 (by omega)
  refine ⟨?_, fun p hp => ?_, fun w hw => r_goTaper_w hw⟩
  · unfold c0_taper_m r_goTaper_m
    rw [hst, hn, hg, s23, s20]
    by_cases hex : ∃ C : Nat, C < n ∧ ¬ (r_voltsOf_v g (Int32.ofNat C) C).toInt < (g 280 57).toInt
    · have hex2 : ∃ C : Nat, C < n ∧ ¬ (c0_voltsAt_v f C (f 1 9)).toInt < (f 4 23).toInt := by
        obtain ⟨C, a, b⟩ := hex
        exact ⟨C, a, by rw [hv C a, s23]; exact b⟩
      rw [(r_taper_a n).1 hex, c0_taper_some n hex2, if_neg (show ¬ (1 : Int32).toInt = 0 by omega)]
      by_cases h2 : (g 280 3).toInt = (2 : Int32).toInt
      · rw [if_pos h2, if_pos h2]
        by_cases h0 : (g 280 57).toInt = 0
        · rw [if_neg (by omega), if_pos h0]
          exact hs
        · rw [if_pos (by omega), if_neg h0]
          by_cases hr : 0 < (g 280 54).toInt
          · rw [if_pos hr, if_pos hr]
            intro k hk
            show fl_row f 4 _ 4 k = _
            rw [fl_row_self, fl_row_self, s20]
            unfold r_goTaper_j99_0
            by_cases e : k = 20
            · subst e
              rw [upd_self, upd_self]
            · rw [upd_ne e, upd_ne (by omega)]
              exact hs k hk
          · rw [if_neg hr, if_neg hr]
            exact hs
      · rw [if_neg h2, if_neg h2]
        exact hs
    · have hal : ∀ C : Nat, C < n → (r_voltsOf_v g (Int32.ofNat C) C).toInt < (g 280 57).toInt := fun C hC => Classical.byContradiction (fun q => hex ⟨C, hC, q⟩)
      rw [(r_taper_a n).2 hal, c0_taper_none n (fun C hC => by rw [hv C hC, s23]; exact hal C hC), if_pos c0]
      have e : (if (g 280 3).toInt = (2 : Int32).toInt then (if 0 < (g 280 57).toInt then (if 0 < (g 280 54).toInt then (match (none : Option t2_F) with | some r => r | none => f) else f) else f) else f) = f := by
        repeat' split
        all_goals first | rfl | simp_all
      rw [e]
      exact hs
  · split
    · exact c0_taper_fx hp
    · rfl
/-- (6) -/
theorem c0_measure_eq (hn1 : (fc 1 5).toInt = n) (hn2 : (fr 280 2).toInt = n) (hx : fc 1 9 = fr 280 5) (hy : fc 1 10 = fr 280 14) (hrst : fc 1 12 = fr 280 9) (hbus : fc 1 8 = fr 280 4) (hst : fc 1 7 = fr 280 3) (hs : c0_Rs fc fr) (hk : c0_Rk fc fr) (hw : ∀ k : Nat, k < 3 → t2_how (fr 280 (64 + k))) (h : ∀ C : Nat, C < n → c0_R6 fc fr C ∧ t2_ck fr C) (hr : 1 ≤ (fr 280 53).toInt) (ht : 0 ≤ (fr 280 57).toInt) :
    (c0_sMeasure_m fc 1 8 = r_goTaper_m (r_goMeasure_m fr) 280 4 ∧ c0_sMeasure_m fc 1 12 = r_goTaper_m (r_goMeasure_m fr) 280 9 ∧ r_goTaper_m (r_goMeasure_m fr) 280 14 = fr 280 5 ∧ c0_Rs (c0_sMeasure_m fc) (r_goTaper_m (r_goMeasure_m fr))) ∧
    ∀ C : Nat, C < n → c0_Rc (c0_sMeasure_m fc) (r_goTaper_m (r_goMeasure_m fr)) C ∧ t2_cap (c0_sMeasure_m fc (18 + 4 * C) 0) ∧ c0_Rm (c0_sMeasure_m fc) (r_goTaper_m (r_goMeasure_m fr)) C ∧ c0_sMeasure_m fc (18 + 4 * C) 11 = r_goTaper_m (r_goMeasure_m fr) 280 (444 + 61 * C + 14) ∧ r_goTaper_m (r_goMeasure_m fr) 280 (444 + 61 * C + 15) = 1 ∧ c0_sMeasure_m fc (18 + 4 * C) 10 = fr 280 (444 + 61 * C + 15) ∧ t2_ck (r_goTaper_m (r_goMeasure_m fr)) C := by
  have hnn : (fc 1 5).toInt.toNat = n := by omega
  have hgn : (fr 280 2).toInt.toNat = n := by omega
  have cells := fun (C : Nat) (hC : C < n) => c0_cell6 hgn hC (h C hC).1 (h C hC).2 hx hy hrst hs hr
  have bus : c0_sMeasure_j95_0 fc = if (r_isLive_v (r_mid fr)).toInt = 0 then r_mid fr 280 4 else r_pack_v (r_mid fr) := by
    unfold c0_sMeasure_j95_0
    rw [hnn, (c0_live_c (f := fc) (by rw [c0_f46_1, upd_ne (by decide)]) (c0_f46_p (by decide) (by decide))).2.1, c0_live_eq hst hk hw, (r_live_c (f := fr) (r_mid_lo (by decide) (by decide) (by decide)) (fun k hk => r_mid_lo (by omega) (by omega) (by omega))).2.1, c0_f46_1, upd_ne (by decide), r_mid_lo (by decide) (by decide) (by decide), hbus]
    have e : c0_packAt_v (c0_sMeasure_f46 fc n) (fc 1 9) = r_pack_v (r_mid fr) := by
      unfold c0_packAt_v r_pack_v
      rw [c0_f46_1, upd_ne (by decide), hnn, r_mid_lo (by decide) (by decide) (by decide), hgn, c0_pack_c (f := fc) (fun C hC j hj => (cells C hC).2.2.2.2.2.2.1 j hj), r_pack_c (f := fr) (r_mid_lo (by decide) (by decide) (by decide)) (fun C hC w hw => r_mid_s (by omega)), hx]
      exact c0_pack_eq (fun C hC => ⟨(h C hC).1.1, (h C hC).1.2.2.1⟩)
    rw [e]
  generalize hB : (if (r_isLive_v (r_mid fr)).toInt = 0 then r_mid fr 280 4 else r_pack_v (r_mid fr)) = B at bus
  have eG : r_goMeasure_m fr = fl_row (r_mid fr) 280 (upd (r_mid fr 280) 4 B) := by rw [r_goMeasure_mid, hB]
  have gw : ∀ w : Nat, w ≠ 4 → r_goMeasure_m fr 280 w = r_mid fr 280 w := fun w hw => by rw [eG, fl_row_self, upd_ne hw]
  have g4 : r_goMeasure_m fr 280 4 = B := by rw [eG, fl_row_self, upd_self]
  let F0 : t2_F := fl_row (c0_sMeasure_f46 fc n) 1 (upd (c0_sMeasure_f46 fc n 1) 8 B)
  have eF : c0_sMeasure_m fc = if (F0 1 7).toInt = (2 : Int32).toInt then c0_taper_m F0 else F0 := by
    have e7 : F0 1 7 = fc 1 7 := by
      show fl_row _ _ _ 1 7 = _
      rw [fl_row_self, upd_ne (by decide), c0_f46_1, upd_ne (by decide)]
    rw [e7]
    unfold c0_sMeasure_m
    rw [hnn, bus]
  have f1 : ∀ j : Nat, j ≠ 8 → j ≠ 12 → F0 1 j = fc 1 j := fun j h8 h12 => by
    show fl_row _ _ _ 1 j = _
    rw [fl_row_self, upd_ne h8, c0_f46_1, upd_ne h12]
  have fp : ∀ p : Nat, p ≠ 1 → F0 p = c0_sMeasure_f46 fc n p := fun p hp => fl_row_ne hp
  have hs0 : c0_Rs F0 (r_goMeasure_m fr) := fun k hk => by
    rw [fp 4 (by decide), c0_f46_p (by decide) (by decide), gw _ (by omega), r_mid_lo (by omega) (by omega) (by omega)]
    exact hs k hk
  have tap := c0_taper_eq (f := F0) (g := r_goMeasure_m fr) (n := n) (by rw [f1 5 (by decide) (by decide)]; exact hnn) (by rw [gw 2 (by decide), r_mid_lo (by decide) (by decide) (by decide)]; exact hgn) hs0 (by rw [f1 7 (by decide) (by decide), gw 3 (by decide), r_mid_lo (by decide) (by decide) (by decide)]; exact hst)
    (fun C hC => by
      have e1 : c0_voltsAt_v F0 C (F0 1 9) = c0_voltsAt_v fc C (fr 280 5) := by
        rw [f1 9 (by decide) (by decide), hx]
        unfold c0_voltsAt_v
        rw [fp _ (by omega), (cells C hC).2.2.2.2.2.2.1 4 (by omega), (cells C hC).2.2.2.2.2.2.1 5 (by omega), (cells C hC).2.2.2.2.2.2.1 7 (by omega)]
      rw [e1, c0_volts_eq (c := Int32.ofNat C) (h C hC).1.1 (h C hC).1.2.2.1]
      have m : ∀ w : Nat, (w = 0 ∨ w = 1 ∨ w = 2 ∨ w = 9) → r_goMeasure_m fr 280 (444 + 61 * C + w) = fr 280 (444 + 61 * C + w) := fun w hw => by rw [gw _ (by omega), r_mid_s (by omega)]
      exact (r_volts_c (by rw [gw 5 (by decide), r_mid_lo (by decide) (by decide) (by decide)]) (m 0 (by omega)) (m 1 (by omega)) (m 2 (by omega)) (m 9 (by omega))).symm)
    (by rw [gw 57 (by decide), r_mid_lo (by decide) (by decide) (by decide)]; exact ht)
  rw [← eF] at tap
  obtain ⟨t1, t2, t3⟩ := tap
  have G : ∀ w : Nat, w ≠ 4 → w ≠ 54 → r_goTaper_m (r_goMeasure_m fr) 280 w = r_mid fr 280 w := fun w h4 h54 => by rw [t3 w h54, gw w h4]
  have Fc : ∀ C : Nat, C < n → c0_sMeasure_m fc (18 + 4 * C) = c0_sMeasure_f46 fc n (18 + 4 * C) := fun C hC => by rw [t2 _ (by omega), fp _ (by omega)]
  refine ⟨⟨?_, ?_, ?_, t1⟩, fun C hC => ?_⟩
  · rw [t2 1 (by decide), t3 4 (by decide), g4]
    show fl_row _ _ _ 1 8 = _
    rw [fl_row_self, upd_self]
  · rw [t2 1 (by decide), G 9 (by decide) (by decide), r_mid_9.1]
    show fl_row _ _ _ 1 12 = _
    rw [fl_row_self, upd_ne (by decide), c0_f46_1, upd_self]
    unfold c0_sMeasure_j5_0 r_goMeasure_j144_0
    rw [hx, hrst]
  · rw [G 14 (by decide) (by decide), r_mid_9.2]
  · obtain ⟨k1, k2, k3, k4, k5, k6, k7, k8⟩ := cells C hC
    have ge : ∀ w : Nat, w < 61 → r_goTaper_m (r_goMeasure_m fr) 280 (444 + 61 * C + w) = r_mid fr 280 (444 + 61 * C + w) := fun w hw => G _ (by omega) (by omega)
    refine ⟨k1.congr (Fc C hC) ge, by rw [Fc C hC]; exact k2, ?_, ?_, ?_, ?_, c0_ck_congr k8 (ge 0 (by decide)) (ge 1 (by decide))⟩
    · unfold c0_Rm
      rw [Fc C hC, ge 11 (by decide), ge 12 (by decide), ge 13 (by decide), ge 16 (by decide)]
      exact k3
    · rw [Fc C hC, ge 14 (by decide), k4]
    · rw [ge 15 (by decide), k5]
    · rw [Fc C hC, k6]
end C0TAP

end

/-! 94.09.so.lean.txt -/
section
/-! ===== the first of some numbers; the reference's faults, its book ===== -/
def t2_sf (p : Nat → Bool) (n : Nat) (v : Int32) : Prop := (v = (-1 : Int32) ∧ ∀ i : Nat, i < n → p i = false) ∨ ∃ j : Nat, j < n ∧ v = Int32.ofNat j ∧ p j = true ∧ ∀ i : Nat, i < j → p i = false
theorem t2_sf_u {p : Nat → Bool} {n : Nat} {v w : Int32} (hv : t2_sf p n v) (hw : t2_sf p n w) : v = w := by
  rcases hv with ⟨rfl, h1⟩ | ⟨j, h1, rfl, h2, h3⟩
  · rcases hw with ⟨rfl, -⟩ | ⟨k, k1, -, k2, -⟩
    · rfl
    · rw [h1 k k1] at k2
      cases k2
  · rcases hw with ⟨-, k1⟩ | ⟨k, k1, rfl, k2, k3⟩
    · rw [k1 j h1] at h2
      cases h2
    · have : j = k := by
        apply Classical.byContradiction
        intro hne
        by_cases l : j < k
        · rw [k3 j l] at h2
          cases h2
        · rw [h3 k (by omega)] at k2
          cases k2
      rw [this]
theorem t2_dsc {p : Nat → Bool} {n : Nat} {g : Nat → Int32} (g0 : g 0 = (-1 : Int32)) (gs : ∀ k : Nat, k < n → g (k + 1) = if p (n - 1 - k) = true then Int32.ofNat (n - 1 - k) else g k) : t2_sf p n (g n) := by
  have key : ∀ k : Nat, k ≤ n → (g k = (-1 : Int32) ∧ ∀ i : Nat, n - k ≤ i → i < n → p i = false) ∨ ∃ j : Nat, n - k ≤ j ∧ j < n ∧ g k = Int32.ofNat j ∧ p j = true ∧ ∀ i : Nat, n - k ≤ i → i < j → p i = false := by
    intro k
    induction k with
    | zero => intro _; exact Or.inl ⟨g0, fun i h1 h2 => absurd h1 (by omega)⟩
    | succ k ih =>
      intro hk
      rw [gs k (by omega)]
      by_cases hp : p (n - 1 - k) = true
      · rw [if_pos hp]
        exact Or.inr ⟨n - 1 - k, by omega, by omega, rfl, hp, fun i h1 h2 => absurd h1 (by omega)⟩
      · rw [if_neg hp]
        have hf : p (n - 1 - k) = false := by
          cases e : p (n - 1 - k) with
          | true => exact absurd e hp
          | false => rfl
        rcases ih (by omega) with ⟨h1, h2⟩ | ⟨j, h1, h2, h3, h4, h5⟩
        · refine Or.inl ⟨h1, fun i i1 i2 => ?_⟩
          by_cases e : i = n - 1 - k
          · rw [e]; exact hf
          · exact h2 i (by omega) i2
        · refine Or.inr ⟨j, by omega, h2, h3, h4, fun i i1 i2 => ?_⟩
          by_cases e : i = n - 1 - k
          · rw [e]; exact hf
          · exact h5 i (by omega) i2
  rcases key n (Nat.le_refl n) with ⟨h1, h2⟩ | ⟨j, h1, h2, h3, h4, h5⟩
  · exact Or.inl ⟨h1, fun i hi => h2 i (by omega) hi⟩
  · exact Or.inr ⟨j, h2, h3, h4, fun i hi => h5 i (by omega) hi⟩
/-- a cell by which one of the first four faults is so -/
noncomputable def r_sp (f : t2_F) (x i : Nat) : Bool := if x = 0 then decide ((f 280 34).toInt < (r_voltsOf_v f (Int32.ofNat i) i).toInt) else if x = 1 then decide ((r_voltsOf_v f (Int32.ofNat i) i).toInt < (f 280 35).toInt) else if x = 2 then decide ((f 280 36).toInt < (f 280 (444 + 61 * i + 3)).toInt) else decide (0 < (f 280 5).toInt) && decide ((f 280 (444 + 61 * i + 3)).toInt < (f 280 37).toInt)
theorem r_sp0 {f : t2_F} {i : Nat} : r_sp f 0 i = decide ((f 280 34).toInt < (r_voltsOf_v f (Int32.ofNat i) i).toInt) := rfl
theorem r_sp1 {f : t2_F} {i : Nat} : r_sp f 1 i = decide ((r_voltsOf_v f (Int32.ofNat i) i).toInt < (f 280 35).toInt) := rfl
theorem r_sp2 {f : t2_F} {i : Nat} : r_sp f 2 i = decide ((f 280 36).toInt < (f 280 (444 + 61 * i + 3)).toInt) := rfl
theorem r_sp3 {f : t2_F} {i : Nat} : r_sp f 3 i = (decide (0 < (f 280 5).toInt) && decide ((f 280 (444 + 61 * i + 3)).toInt < (f 280 37).toInt)) := rfl
theorem r_so_step {f : t2_F} {x k : Nat} (hx : x < 4) : r_soBy_e2 f (Int32.ofNat x) (k + 1) = match r_soBy_e2 f (Int32.ofNat x) k with
    | some r => some r
    | none => if r_sp f x k = true then some (Int32.ofNat k) else none := by
  have c1 : (1 : Int32).toInt = 1 := by decide +kernel
  have c2 : (2 : Int32).toInt = 2 := by decide +kernel
  have c0 : (0 : Int32).toInt = 0 := rfl
  have ex : (Int32.ofNat x).toInt = x := at_ofN (by omega)
  have key : ∀ (P : Prop) [Decidable P] (a : Option Int32), (if (if P then (1 : Int32) else (0 : Int32)).toInt = 0 then none else a) = if decide P = true then a else none := by
    intro P _ a
    by_cases h : P
    · rw [if_pos h, if_neg (by omega), decide_eq_true h, if_pos rfl]
    · rw [if_neg h, if_pos c0, decide_eq_false h, if_neg Bool.false_ne_true]
  have key2 : ∀ (P R : Prop) [Decidable P] [Decidable R] (a : Option Int32), (if (if P then (if R then (1 : Int32) else (0 : Int32)) else (0 : Int32)).toInt = 0 then none else a) = if (decide P && decide R) = true then a else none := by
    intro P R _ _ a
    by_cases h : P
    · rw [if_pos h, decide_eq_true h, Bool.true_and, key R a]
    · rw [if_neg h, if_pos c0, decide_eq_false h, Bool.false_and, if_neg Bool.false_ne_true]
  conv => lhs; unfold r_soBy_e2
  cases r_soBy_e2 f (Int32.ofNat x) k with
  | some r => rfl
  | none =>
    show (if _ then _ else _) = (if _ then _ else _)
    rcases (show x = 0 ∨ x = 1 ∨ x = 2 ∨ x = 3 by omega) with h | h | h | h <;> subst h
    · rw [if_pos (show (Int32.ofNat 0).toInt = 0 from rfl), r_sp0]
      exact key _ _
    · rw [if_neg (show ¬ (Int32.ofNat 1).toInt = 0 by omega), if_pos (show (Int32.ofNat 1).toInt = (1 : Int32).toInt by omega), r_sp1]
      exact key _ _
    · rw [if_neg (show ¬ (Int32.ofNat 2).toInt = 0 by omega), if_neg (show ¬ (Int32.ofNat 2).toInt = (1 : Int32).toInt by omega), if_pos (show (Int32.ofNat 2).toInt = (2 : Int32).toInt by omega), r_sp2]
      exact key _ _
    · rw [if_neg (show ¬ (Int32.ofNat 3).toInt = 0 by omega), if_neg (show ¬ (Int32.ofNat 3).toInt = (1 : Int32).toInt by omega), if_neg (show ¬ (Int32.ofNat 3).toInt = (2 : Int32).toInt by omega), r_sp3]
      exact key2 _ _ _
theorem r_so_sf {f : t2_F} {x n : Nat} (hx : x < 4) (hn : (f 280 2).toInt.toNat = n) : t2_sf (r_sp f x) n (r_soBy_v f (Int32.ofNat x)) := by
  have key : ∀ k : Nat, (r_soBy_e2 f (Int32.ofNat x) k = none ∧ ∀ i : Nat, i < k → r_sp f x i = false) ∨ ∃ j : Nat, j < k ∧ r_soBy_e2 f (Int32.ofNat x) k = some (Int32.ofNat j) ∧ r_sp f x j = true ∧ ∀ i : Nat, i < j → r_sp f x i = false := by
    intro k
    induction k with
    | zero => exact Or.inl ⟨rfl, fun i h => absurd h (Nat.not_lt_zero i)⟩
    | succ k ih =>
      rw [r_so_step hx]
      rcases ih with ⟨h1, h2⟩ | ⟨j, h1, h2, h3, h4⟩
      · rw [h1]
        by_cases hp : r_sp f x k = true
        · exact Or.inr ⟨k, Nat.lt_succ_self k, if_pos hp, hp, h2⟩
        · have hf : r_sp f x k = false := by
            cases e : r_sp f x k with
            | true => exact absurd e hp
            | false => rfl
          refine Or.inl ⟨if_neg hp, fun i hi => ?_⟩
          by_cases e : i = k
          · rw [e]; exact hf
          · exact h2 i (by omega)
      · rw [h2]
        exact Or.inr ⟨j, by omega, rfl, h3, h4⟩
  unfold r_soBy_v
  rw [hn]
  rcases key n with ⟨h1, h2⟩ | ⟨j, h1, h2, h3, h4⟩
  · rw [h1]
    exact Or.inl ⟨rfl, h2⟩
  · rw [h2]
    exact Or.inr ⟨j, h1, rfl, h3, h4⟩
/-! the book of the reference -/
theorem r_wd_f16 {f : t2_F} {x : Int32} : ∀ k : Nat, k ≤ 46 → ∀ j : Nat, j < 48 → r_writeDown_f16 f x k 280 (167 + j) = if j < k then f 280 (167 + (j + 2)) else f 280 (167 + j) := by
  intro k
  induction k with
  | zero => intro _ j _; rfl
  | succ k ih =>
    intro hk j hj
    show r_writeDown_b16_m (r_writeDown_f16 f x k) x k 280 (167 + j) = _
    unfold r_writeDown_b16_m
    by_cases e : j = k
    · subst e
      rw [fl_row_self, upd_self, if_pos (by omega), show 167 + j + 2 = 167 + (j + 2) by omega, ih (by omega) (j + 2) (by omega), if_neg (by omega)]
    · rw [fl_row_self, upd_ne (by omega), ih (by omega) j hj]
      by_cases l : j < k
      · rw [if_pos l, if_pos (by omega)]
      · rw [if_neg l, if_neg (by omega)]
theorem r_wd_lt {f : t2_F} {x : Int32} {n : Nat} (hn : (f 280 20).toInt = (n : Int)) (hl : n < 24) : (r_writeDown_m f x 280 20).toInt = (n : Int) + 1 ∧ r_writeDown_m f x 280 (167 + 2 * n) = f 280 7 ∧ r_writeDown_m f x 280 (167 + 2 * n + 1) = x ∧ ∀ j : Nat, j < 2 * n → r_writeDown_m f x 280 (167 + j) = f 280 (167 + j) := by
  have c24 : (24 : Int32).toInt = 24 := by decide +kernel
  have c1 : (1 : Int32).toInt = 1 := by decide +kernel
  unfold r_writeDown_m
  rw [if_neg (by omega), hn, Int.toNat_natCast]
  refine ⟨?_, ?_, ?_, fun j hj => ?_⟩
  · rw [fl_row_self, upd_self, at_add32] <;> omega
  · rw [fl_row_self, upd_ne (by omega), upd_ne (by omega), upd_self]
  · rw [fl_row_self, upd_ne (by omega), upd_self]
  · rw [fl_row_self, upd_ne (by omega), upd_ne (by omega), upd_ne (by omega)]
theorem r_wd_24 {f : t2_F} {x : Int32} (hn : (f 280 20).toInt = 24) : (r_writeDown_m f x 280 20).toInt = 24 ∧ r_writeDown_m f x 280 (167 + 2 * 23) = f 280 7 ∧ r_writeDown_m f x 280 (167 + 2 * 23 + 1) = x ∧ ∀ j : Nat, j < 46 → r_writeDown_m f x 280 (167 + j) = f 280 (167 + (j + 2)) := by
  have c24 : (24 : Int32).toInt = 24 := by decide +kernel
  have c1 : (1 : Int32).toInt = 1 := by decide +kernel
  have e : 2 * ((24 : Int).toNat - 1) = 2 * 23 := by decide
  unfold r_writeDown_m
  rw [if_pos (by omega), hn, e]
  refine ⟨?_, ?_, ?_, fun j hj => ?_⟩
  · rw [fl_row_self, upd_self, at_add32] <;> rw [at_sub32] <;> omega
  · rw [fl_row_self, upd_ne (by omega), upd_ne (by omega), upd_self]
  · rw [fl_row_self, upd_ne (by omega), upd_self]
  · rw [fl_row_self, upd_ne (by omega), upd_ne (by omega), upd_ne (by omega), upd_ne (by omega), r_wd_f16 46 (Nat.le_refl 46) j (by omega), if_pos hj]

end

/-! 94.10.flt.lean.txt -/
section
/-! ===== block 0: (7) of a second: which faults are so ===== -/
section C0FLT
variable {fc fr f g F G : t2_F} {C n k : Nat} {c x y z : Int32}
theorem t2_bt_or {j : Nat} : t2_bt (x ||| y) j = (t2_bt x j || t2_bt y j) := BitVec.getLsbD_or
theorem t2_bt_if {P : Prop} [Decidable P] {i : Nat} (hc : ∀ k : Fin 11, t2_bt c k.val = decide (k.val = i)) (hk : k < 11) : t2_bt (if P then c else (0 : Int32)) k = (decide P && decide (k = i)) := by
  by_cases h : P
  · rw [if_pos h, decide_eq_true h, Bool.true_and]
    exact hc ⟨k, hk⟩
  · rw [if_neg h, decide_eq_false h, Bool.false_and]
    exact t2_bt0
/-- the cells by which the first four are so: the class's are the reference's -/
theorem c0_four (hn : (fc 1 5).toInt = n) (hg : (fr 280 2).toInt = n) (hn16 : n ≤ 16) (hv : ∀ C : Nat, C < n → c0_voltsAt_v fc C (fc 1 9) = r_voltsOf_v fr (Int32.ofNat C) C) (hw : ∀ C : Nat, C < n → fc (18 + 4 * C) 6 = fr 280 (444 + 61 * C + 3)) (hx : fc 1 9 = fr 280 5) (hs : c0_Rs fc fr) :
    (c0_faultsOfCells_a26 fc n).1 = r_soBy_v fr (0 : Int32) ∧ (c0_faultsOfCells_a26 fc n).2.1 = r_soBy_v fr (1 : Int32) ∧ (c0_faultsOfCells_a26 fc n).2.2.1 = r_soBy_v fr (2 : Int32) ∧ (c0_faultsOfCells_a26 fc n).2.2.2 = r_soBy_v fr (3 : Int32) := by
  have s0 : fc 4 0 = fr 280 34 := hs 0 (by omega)
  have s1 : fc 4 1 = fr 280 35 := hs 1 (by omega)
  have s2 : fc 4 2 = fr 280 36 := hs 2 (by omega)
  have s3 : fc 4 3 = fr 280 37 := hs 3 (by omega)
  have hnn : (fc 1 5).toInt.toNat = n := by omega
  have hgn : (fr 280 2).toInt.toNat = n := by omega
  have ix : ∀ k : Nat, k < n → ((fc 1 5) - (1 : Int32)) - (Int32.ofNat k) = Int32.ofNat (n - 1 - k) := fun k hk => Int32.toInt.inj (by rw [t2_di hn hk, at_ofN (by omega)])
  have dec : ∀ (P : Prop) [Decidable P] (a b : Int32), (if P then a else b) = if decide P = true then a else b := by
    intro P _ a b
    by_cases h : P
    · rw [if_pos h, if_pos (decide_eq_true h)]
    · rw [if_neg h, if_neg (by rw [decide_eq_false h]; exact Bool.false_ne_true)]
  refine ⟨t2_sf_u (t2_dsc (g := fun k => (c0_faultsOfCells_a26 fc k).1) rfl (fun k hk => ?_)) (r_so_sf (x := 0) (by omega) hgn), t2_sf_u (t2_dsc (g := fun k => (c0_faultsOfCells_a26 fc k).2.1) rfl (fun k hk => ?_)) (r_so_sf (x := 1) (by omega) hgn), t2_sf_u (t2_dsc (g := fun k => (c0_faultsOfCells_a26 fc k).2.2.1) rfl (fun k hk => ?_)) (r_so_sf (x := 2) (by omega) hgn), t2_sf_u (t2_dsc (g := fun k => (c0_faultsOfCells_a26 fc k).2.2.2) rfl (fun k hk => ?_)) (r_so_sf (x := 3) (by omega) hgn)⟩
  · rw [r_sp0]
    show (if _ then _ else (c0_faultsOfCells_a26 fc k).1) = if _ then _ else (c0_faultsOfCells_a26 fc k).1
    rw [hnn, ix k hk, hv _ (by omega), s0]
    exact dec _ _ _
  · rw [r_sp1]
    show (if _ then _ else (c0_faultsOfCells_a26 fc k).2.1) = if _ then _ else (c0_faultsOfCells_a26 fc k).2.1
    rw [hnn, ix k hk, hv _ (by omega), s1]
    exact dec _ _ _
  · rw [r_sp2]
    show (if _ then _ else (c0_faultsOfCells_a26 fc k).2.2.1) = if _ then _ else (c0_faultsOfCells_a26 fc k).2.2.1
    rw [hnn, ix k hk, hw _ (by omega), s2]
    exact dec _ _ _
  · rw [r_sp3]
    show (if _ then (if _ then _ else (c0_faultsOfCells_a26 fc k).2.2.2) else (c0_faultsOfCells_a26 fc k).2.2.2) = if _ then _ else (c0_faultsOfCells_a26 fc k).2.2.2
    rw [hnn, ix k hk, hw _ (by omega), s3, hx]
    by_cases h : 0 < (fr 280 5).toInt
    · rw [if_pos h, decide_eq_true h, Bool.true_and]
      exact dec _ _ _
    · rw [if_neg h, decide_eq_false h, Bool.false_and, if_neg Bool.false_ne_true]
def t2_cb (a b c d : Bool) (k : Nat) : Bool := if k = 0 then a else if k = 1 then b else if k = 2 then c else if k = 3 then d else false
theorem c0_fcv {H Lo T K : Int32} (hn : (fc 1 5).toInt.toNat = n) (eH : (c0_faultsOfCells_a26 fc n).1 = H) (eL : (c0_faultsOfCells_a26 fc n).2.1 = Lo) (eT : (c0_faultsOfCells_a26 fc n).2.2.1 = T) (eK : (c0_faultsOfCells_a26 fc n).2.2.2 = K) (k : Fin 11) :
    t2_bt (c0_faultsOfCells_v fc) k.val = t2_cb (decide (¬ H.toInt = (-1 : Int32).toInt)) (decide (¬ Lo.toInt = (-1 : Int32).toInt)) (decide (¬ T.toInt = (-1 : Int32).toInt) || decide ((fc 4 2).toInt < (fc 1 11).toInt)) (decide (¬ K.toInt = (-1 : Int32).toInt)) k.val := by
  unfold c0_faultsOfCells_v
  rw [hn, eH, eL, eT, eK]
  generalize (-1 : Int32).toInt = m1
  by_cases hH : H.toInt = m1 <;> by_cases hL : Lo.toInt = m1 <;> by_cases hT : T.toInt = m1 <;> by_cases hB : (fc 4 2).toInt < (fc 1 11).toInt <;> by_cases hK : K.toInt = m1 <;>
    simp only [hH, hL, hT, hB, hK, if_true, if_false, c0_blame_v, not_true, not_false_eq_true, decide_true, decide_false, Bool.or_true, Bool.or_false, Bool.true_or, Bool.false_or] <;> revert k <;> decide +kernel
theorem c0_fcm {H Lo T K : Int32} (hn : (fc 1 5).toInt.toNat = n) (eH : (c0_faultsOfCells_a26 fc n).1 = H) (eL : (c0_faultsOfCells_a26 fc n).2.1 = Lo) (eT : (c0_faultsOfCells_a26 fc n).2.2.1 = T) (eK : (c0_faultsOfCells_a26 fc n).2.2.2 = K) :
    c0_faultsOfCells_m fc 12 0 = (if H.toInt = (-1 : Int32).toInt then fc 12 0 else H) ∧ c0_faultsOfCells_m fc 12 1 = (if Lo.toInt = (-1 : Int32).toInt then fc 12 1 else Lo) ∧ c0_faultsOfCells_m fc 12 2 = (if T.toInt = (-1 : Int32).toInt then (if (fc 4 2).toInt < (fc 1 11).toInt then T else fc 12 2) else T) ∧ c0_faultsOfCells_m fc 12 3 = (if K.toInt = (-1 : Int32).toInt then fc 12 3 else K) := by
  have t0 : (0 : Int32).toInt.toNat = 0 := rfl
  have t1 : (1 : Int32).toInt.toNat = 1 := rfl
  have t2 : (2 : Int32).toInt.toNat = 2 := rfl
  have t3 : (3 : Int32).toInt.toNat = 3 := rfl
  unfold c0_faultsOfCells_m
  rw [hn, eH, eL, eT, eK]
  generalize (-1 : Int32).toInt = m1
  by_cases hH : H.toInt = m1 <;> by_cases hL : Lo.toInt = m1 <;> by_cases hT : T.toInt = m1 <;> by_cases hB : (fc 4 2).toInt < (fc 1 11).toInt <;> by_cases hK : K.toInt = m1 <;>
    simp (disch := decide) only [hH, hL, hT, hB, hK, if_true, if_false, c0_blame_m, t0, t1, t2, t3, fl_row_self, upd_self, upd_ne, and_self]
end C0FLT

end

/-! 94.11.ring.lean.txt -/
section
/-! ===== places of a ring ===== -/
def t2_pl (m F i : Nat) : Nat := if F + i < m then F + i else F + i - m
theorem t2_pl_lt {m F i : Nat} (hF : F < m) (hi : i ≤ m) : t2_pl m F i < m := by unfold t2_pl; split <;> omega
theorem t2_pl_ne {m F i j : Nat} (hF : F < m) (hi : i < m) (hj : j < m) (h : i ≠ j) : t2_pl m F i ≠ t2_pl m F j := by unfold t2_pl; split <;> split <;> omega
theorem t2_pl_m {m F : Nat} (hF : F < m) : t2_pl m F m = F := by unfold t2_pl; rw [if_neg (by omega)]; omega
theorem t2_pl_0 {m F : Nat} (hF : F < m) : t2_pl m F 0 = F := by unfold t2_pl; rw [if_pos (by omega)]; omega
theorem t2_pl_s {m F i : Nat} (hF : F < m) (hi : i + 1 < m) : t2_pl m (t2_pl m F 1) i = t2_pl m F (i + 1) := by unfold t2_pl; split <;> split <;> (try split) <;> omega
theorem t2_pl_e {m F : Nat} (hF : F < m) (hm : 2 ≤ m) : t2_pl m (t2_pl m F 1) (m - 1) = F := by unfold t2_pl; split <;> split <;> omega
theorem t2_pl_n0 {m F i : Nat} (hF : F < m) (hi : i + 1 < m) : t2_pl m F (i + 1) ≠ F := by unfold t2_pl; split <;> omega
theorem t2_if2 {P R : Prop} [Decidable P] [Decidable R] {c : Int32} : (if P then (0 : Int32) else (if R then c else (0 : Int32))) = if (¬ P ∧ R) then c else (0 : Int32) := by
  by_cases p : P
  · rw [if_pos p, if_neg (fun h => h.1 p)]
  · by_cases r : R
    · rw [if_neg p, if_pos r, if_pos ⟨p, r⟩]
    · rw [if_neg p, if_neg r, if_neg (fun h => r h.2)]
theorem t2_if3 {P R : Prop} [Decidable P] [Decidable R] {c : Int32} : (if (if P then (if R then (1 : Int32) else (0 : Int32)) else (0 : Int32)).toInt = 0 then (0 : Int32) else c) = if (P ∧ R) then c else (0 : Int32) := by
  have c1 : (1 : Int32).toInt = 1 := by decide +kernel
  have c0 : (0 : Int32).toInt = 0 := rfl
  by_cases p : P
  · by_cases r : R
    · rw [if_pos p, if_pos r, if_neg (by omega), if_pos ⟨p, r⟩]
    · rw [if_pos p, if_neg r, if_pos c0, if_neg (fun h => r h.2)]
  · rw [if_neg p, if_pos c0, if_neg (fun h => p h.1)]
theorem t2_if4 {P : Prop} [Decidable P] {c : Int32} : (if (if P then (0 : Int32) else (1 : Int32)).toInt = 0 then (0 : Int32) else c) = if (¬ P) then c else (0 : Int32) := by
  have c1 : (1 : Int32).toInt = 1 := by decide +kernel
  have c0 : (0 : Int32).toInt = 0 := rfl
  by_cases p : P
  · rw [if_pos p, if_pos c0, if_neg (fun h => h p)]
  · rw [if_neg p, if_neg (by omega), if_pos p]
def t2_pk (b4 b6 b7 b8 b9 b10 : Bool) (k : Nat) : Bool := if k = 4 then b4 else if k = 6 then b6 else if k = 7 then b7 else if k = 8 then b8 else if k = 9 then b9 else if k = 10 then b10 else false
theorem t2_pk_or {b4 b6 b7 b8 b9 b10 : Bool} {k : Nat} (hk : k < 11) : ((((((b4 && decide (k = 4)) || (b6 && decide (k = 6))) || (b7 && decide (k = 7))) || (b8 && decide (k = 8))) || (b9 && decide (k = 9))) || (b10 && decide (k = 10))) = t2_pk b4 b6 b7 b8 b9 b10 k := by
  unfold t2_pk
  rcases (show k = 0 ∨ k = 1 ∨ k = 2 ∨ k = 3 ∨ k = 4 ∨ k = 5 ∨ k = 6 ∨ k = 7 ∨ k = 8 ∨ k = 9 ∨ k = 10 by omega) with h | h | h | h | h | h | h | h | h | h | h <;> subst h <;> simp

end

/-! 94.12.pack.lean.txt -/
section
/-! ===== block 0: (7) of a second: the pack's faults, the book ===== -/
section C0FPK
variable {fc fr f g F G : t2_F} {C n k : Nat} {c x y z : Int32}
theorem c0_spread_c {f f' : t2_F} (h1 : f' 1 = f 1) (h : ∀ C : Nat, f' (18 + 4 * C) = f (18 + 4 * C)) : c0_partSpread_v f' = c0_partSpread_v f := by
  have e : ∀ (y : Int32) (k : Nat), c0_spreadOf_a10 f' y k = c0_spreadOf_a10 f y k := by
    intro y k
    induction k with
    | zero => rfl
    | succ k ih =>
      unfold c0_spreadOf_a10
      rw [ih, h]
  unfold c0_partSpread_v c0_partSpread_j4_0 c0_spreadOf_v
  rw [h1, e]
theorem c0_fp_bits (hk : k < 11) : t2_bt (c0_faultsOfPack_v f) k = t2_pk (decide ((f 1 7).toInt = (2 : Int32).toInt ∧ (f 4 4).toInt < (t2_abs_v (f 4 20)).toInt)) (decide ((c0_leakBit_j2_0 f (c0_faultsOfPack_j59_0 f)).toInt = (3 : Int32).toInt)) (decide ((f 4 17).toInt < (c0_partSpread_v f).toInt)) (decide (¬ (c0_actualBits_v f).toInt = (c0_orderedBits_v f).toInt) && decide (¬ (f 10 6).toInt = 0)) (decide (¬ (f 4 28).toInt = 0 ∧ (f 4 28).toInt < (f 10 4 + (1 : Int32)).toInt)) (decide ((f 4 29).toInt = 0)) k := by
  have lk := c0_live_c (f := f) (f' := c0_leakBit_m f (c0_faultsOfPack_j59_0 f)) (by rw [c0_leakBit_fr (by decide)]) (by rw [c0_leakBit_fr (by decide)])
  have sp := c0_spread_c (f := f) (f' := c0_leakBit_m f (c0_faultsOfPack_j59_0 f)) (by rw [c0_leakBit_fr (by decide)]) (fun C => by rw [c0_leakBit_fr (by omega)])
  have r6 : c0_leakBit_m f (c0_faultsOfPack_j59_0 f) 10 6 = f 10 6 := by
    unfold c0_leakBit_m
    rw [fl_row_self, upd_ne (by decide)]
  have r4 : c0_leakBit_m f (c0_faultsOfPack_j59_0 f) 10 4 = f 10 4 := by
    unfold c0_leakBit_m
    rw [fl_row_self, upd_ne (by decide)]
  have r40 : c0_weldBit0_m (c0_leakBit_m f (c0_faultsOfPack_j59_0 f)) 10 4 = f 10 4 := by
    unfold c0_weldBit0_m
    rw [fl_row_self, upd_ne (by decide), r4]
  have r41 : c0_weldBit1_m (c0_leakBit_m f (c0_faultsOfPack_j59_0 f)) 10 4 = f 10 4 := by
    unfold c0_weldBit1_m
    rw [fl_row_self, upd_ne (by decide), r4]
  have b4 : t2_bt (c0_faultsOfPack_j36_0 f) k = (decide ((f 1 7).toInt = (2 : Int32).toInt ∧ (f 4 4).toInt < (t2_abs_v (f 4 20)).toInt) && decide (k = 4)) := by
    unfold c0_faultsOfPack_j36_0 c0_faultsOfPack_j13_0
    rw [t2_if3]
    exact t2_bt_if (by decide +kernel) hk
  have b6 : t2_bt (c0_leakBit_v f (c0_faultsOfPack_j59_0 f)) k = (decide ((c0_leakBit_j2_0 f (c0_faultsOfPack_j59_0 f)).toInt = (3 : Int32).toInt) && decide (k = 6)) := by
    unfold c0_leakBit_v c0_leakBit_j27_0
    exact t2_bt_if (by decide +kernel) hk
  have b7 : t2_bt (c0_faultsOfPack_j81_0 f) k = (decide ((f 4 17).toInt < (c0_partSpread_v f).toInt) && decide (k = 7)) := by
    unfold c0_faultsOfPack_j81_0
    rw [sp]
    exact t2_bt_if (by decide +kernel) hk
  have b8 : t2_bt (c0_weldBit1_v (c0_leakBit_m f (c0_faultsOfPack_j59_0 f))) k = (decide (¬ (f 10 6).toInt = 0) && decide (k = 8)) := by
    unfold c0_weldBit1_v c0_weldBit1_j23_0 c0_weldBit1_j8_0
    rw [r6, t2_if4]
    exact t2_bt_if (by decide +kernel) hk
  have b9 : ∀ M : t2_F, M 10 4 = f 10 4 → t2_bt (c0_silentBit_v M (f 4 28)) k = (decide (¬ (f 4 28).toInt = 0 ∧ (f 4 28).toInt < (f 10 4 + (1 : Int32)).toInt) && decide (k = 9)) := fun M hM => by
    unfold c0_silentBit_v c0_silentBit_j11_0
    rw [hM, t2_if2]
    exact t2_bt_if (by decide +kernel) hk
  have b10 : t2_bt (c0_faultsOfPack_j138_0 f) k = (decide ((f 4 29).toInt = 0) && decide (k = 10)) := by
    unfold c0_faultsOfPack_j138_0
    exact t2_bt_if (by decide +kernel) hk
  have b10' : t2_bt (c0_faultsOfPack_j138_1 f) k = (decide ((f 4 29).toInt = 0) && decide (k = 10)) := by
    unfold c0_faultsOfPack_j138_1
    exact t2_bt_if (by decide +kernel) hk
  rw [← t2_pk_or hk]
  unfold c0_faultsOfPack_v
  rw [lk.1, lk.2.2]
  by_cases hd : (c0_actualBits_v f).toInt = (c0_orderedBits_v f).toInt
  · have hf : decide (¬ (c0_actualBits_v f).toInt = (c0_orderedBits_v f).toInt) = false := decide_eq_false (fun h => h hd)
    rw [if_pos hd, t2_bt_or, t2_bt_or, t2_bt_or, t2_bt_or, t2_bt_or, b4, b6, b7, b9 _ r40, b10, hf, Bool.false_and, Bool.false_and]
    unfold c0_weldBit0_v
    rw [t2_bt0]
  · rw [if_neg hd, t2_bt_or, t2_bt_or, t2_bt_or, t2_bt_or, t2_bt_or, b4, b6, b7, b8, b9 _ r41, b10', decide_eq_true hd, Bool.true_and]
theorem c0_fp_m : c0_faultsOfPack_m f 10 4 = f 10 4 + (1 : Int32) ∧ c0_faultsOfPack_m f 10 5 = c0_leakBit_j2_0 f (c0_faultsOfPack_j59_0 f) ∧ c0_faultsOfPack_m f 10 6 = (if (c0_actualBits_v f).toInt = (c0_orderedBits_v f).toInt then (0 : Int32) else (1 : Int32)) ∧ ∀ j : Nat, j ≠ 4 → j ≠ 5 → j ≠ 6 → c0_faultsOfPack_m f 10 j = f 10 j := by
  have lk := c0_live_c (f := f) (f' := c0_leakBit_m f (c0_faultsOfPack_j59_0 f)) (by rw [c0_leakBit_fr (by decide)]) (by rw [c0_leakBit_fr (by decide)])
  unfold c0_faultsOfPack_m
  rw [lk.1, lk.2.2]
  by_cases hd : (c0_actualBits_v f).toInt = (c0_orderedBits_v f).toInt
  · rw [if_pos hd, if_pos hd]
    unfold c0_silentBit_m c0_weldBit0_m c0_leakBit_m
    refine ⟨?_, ?_, ?_, fun j h1 h2 h3 => ?_⟩ <;> simp (disch := omega) only [fl_row_self, upd_self, upd_ne]
  · rw [if_neg hd, if_neg hd]
    unfold c0_silentBit_m c0_weldBit1_m c0_leakBit_m
    refine ⟨?_, ?_, ?_, fun j h1 h2 h3 => ?_⟩ <;> simp (disch := omega) only [fl_row_self, upd_self, upd_ne]
/-- the book: a ring, a list -/
def c0_Bk (fc fr : t2_F) : Prop := fc 13 0 = (24 : Int32) ∧ (0 ≤ (fc 13 2).toInt ∧ (fc 13 2).toInt ≤ 23) ∧ fc 13 3 = fr 280 20 ∧ (0 ≤ (fr 280 20).toInt ∧ (fr 280 20).toInt ≤ 24) ∧ ∀ i : Nat, (i : Int) < (fr 280 20).toInt → fc 14 (t2_pl 24 (fc 13 2).toInt.toNat i * 3) = fr 280 (167 + 2 * i) ∧ fc 14 (t2_pl 24 (fc 13 2).toInt.toNat i * 3 + 1) = fr 280 (167 + 2 * i + 1)
theorem c0_bplace {n : Nat} {x : Int32} (h0 : f 13 0 = (24 : Int32)) (hF : 0 ≤ (f 13 2).toInt ∧ (f 13 2).toInt ≤ 23) (hx : x.toInt = n) (hn : n ≤ 24) : (c0_bplace_v f x).toInt = (t2_pl 24 (f 13 2).toInt.toNat n : Nat) := by
  have c24 : (24 : Int32).toInt = 24 := by decide +kernel
  have e : (f 13 2 + x).toInt = (f 13 2).toInt + n := by rw [at_add32] <;> omega
  unfold c0_bplace_v c0_bplace_j12_0 t2_pl
  rw [h0]
  by_cases h : (f 13 2 + x).toInt < (24 : Int32).toInt
  · rw [if_pos h, if_pos (by omega)]
    omega
  · rw [if_neg h, if_neg (by omega), at_sub32] <;> omega
theorem c0_bk_add {t : Int32} (h : c0_Bk fc fr) (ht : fr 280 7 = t) : c0_Bk (c0_badd_m fc t x z) (r_writeDown_m fr x) := by
  obtain ⟨h0, hF, h3, hn, hr⟩ := h
  have c24 : (24 : Int32).toInt = 24 := by decide +kernel
  have c1 : (1 : Int32).toInt = 1 := by decide +kernel
  generalize hnn : (fr 280 20).toInt.toNat = n at *
  have en : (fr 280 20).toInt = (n : Int) := by omega
  generalize hFF : (fc 13 2).toInt.toNat = Fi at *
  have eF : (fc 13 2).toInt = (Fi : Int) := by omega
  have pn := c0_bplace (f := fc) (x := fc 13 3) (n := n) h0 hF (by rw [h3]; exact en) (by omega)
  rw [hFF] at pn
  have pnn : (c0_bplace_v fc (fc 13 3)).toInt.toNat = t2_pl 24 Fi n := by omega
  have lF : Fi < 24 := by omega
  by_cases hl : n < 24
  · obtain ⟨w20, wa, wb, wo⟩ := r_wd_lt (f := fr) (x := x) en hl
    have hlt : (fc 13 3).toInt < (fc 13 0).toInt := by rw [h3, h0]; omega
    have k0 : c0_badd_m fc t x z 13 0 = fc 13 0 := by
      unfold c0_badd_m
      rw [fl_row_self, upd_ne (by decide), upd_ne (by decide)]
    have k2 : c0_badd_m fc t x z 13 2 = fc 13 2 := by
      unfold c0_badd_m c0_badd_j48_1
      rw [fl_row_self, upd_self, if_pos hlt]
    have k3 : c0_badd_m fc t x z 13 3 = fc 13 3 + (1 : Int32) := by
      unfold c0_badd_m c0_badd_j48_0
      rw [fl_row_self, upd_ne (by decide), upd_self, if_pos hlt]
    have kr : c0_badd_m fc t x z 14 = upd (upd (upd (fc 14) (t2_pl 24 Fi n * 3) t) (t2_pl 24 Fi n * 3 + 1) x) (t2_pl 24 Fi n * 3 + 2) z := by
      unfold c0_badd_m
      rw [fl_row_ne (by decide), fl_row_self, pnn]
    refine ⟨by rw [k0, h0], by rw [k2]; exact hF, ?_, by omega, fun i hi => ?_⟩
    · rw [k3, h3]
      apply Int32.toInt.inj
      rw [w20, at_add32] <;> omega
    · rw [k2, hFF, kr]
      by_cases e : i = n
      · subst e
        rw [wa, wb, ht, upd_ne (by omega), upd_ne (by omega), upd_self, upd_ne (by omega), upd_self]
        exact ⟨rfl, rfl⟩
      · have hne := t2_pl_ne (m := 24) (F := Fi) (i := i) (j := n) lF (by omega) hl e
        obtain ⟨r1, r2⟩ := hr i (by omega)
        have w1 := wo (2 * i) (by omega)
        have w2 := wo (2 * i + 1) (by omega)
        rw [w1, show 167 + 2 * i + 1 = 167 + (2 * i + 1) by omega, w2, upd_ne (by omega), upd_ne (by omega), upd_ne (by omega), upd_ne (by omega), upd_ne (by omega), upd_ne (by omega)]
        exact ⟨r1, r2⟩
  · have e24 : n = 24 := by omega
    subst e24
    obtain ⟨w20, wa, wb, wo⟩ := r_wd_24 (f := fr) (x := x) en
    rw [t2_pl_m lF] at pnn
    have hlt : ¬ (fc 13 3).toInt < (fc 13 0).toInt := by rw [h3, h0]; omega
    have k0 : c0_badd_m fc t x z 13 0 = fc 13 0 := by
      unfold c0_badd_m
      rw [fl_row_self, upd_ne (by decide), upd_ne (by decide)]
    have kr : c0_badd_m fc t x z 14 = upd (upd (upd (fc 14) (Fi * 3) t) (Fi * 3 + 1) x) (Fi * 3 + 2) z := by
      unfold c0_badd_m
      rw [fl_row_ne (by decide), fl_row_self, pnn]
    have k3 : c0_badd_m fc t x z 13 3 = fc 13 3 := by
      unfold c0_badd_m c0_badd_j48_0
      rw [fl_row_self, upd_ne (by decide), upd_self, if_neg hlt]
    have p1 := c0_bplace (f := fl_row fc 14 (upd (upd (upd (fc 14) (Fi * 3) t) (Fi * 3 + 1) x) (Fi * 3 + 2) z)) (x := (1 : Int32)) (n := 1) (by rw [fl_row_ne (by decide)]; exact h0) (by rw [fl_row_ne (by decide)]; exact hF) c1 (by decide)
    rw [fl_row_ne (by decide), hFF] at p1
    have k2 : (c0_badd_m fc t x z 13 2).toInt = (t2_pl 24 Fi 1 : Nat) := by
      unfold c0_badd_m c0_badd_j48_1
      rw [fl_row_self, upd_self, if_neg hlt, pnn, p1]
    have l1 := t2_pl_lt (m := 24) (F := Fi) (i := 1) lF (by decide)
    refine ⟨by rw [k0, h0], by omega, ?_, by omega, fun i hi => ?_⟩
    · rw [k3, h3]
      apply Int32.toInt.inj
      rw [w20, en]
      rfl
    · rw [k2, Int.toNat_natCast, kr]
      by_cases e : i = 23
      · subst e
        have e23 := t2_pl_e (m := 24) (F := Fi) lF (by decide)
        rw [show 24 - 1 = 23 from rfl] at e23
        rw [e23, wa, wb, ht, upd_ne (by omega), upd_ne (by omega), upd_self, upd_ne (by omega), upd_self]
        exact ⟨rfl, rfl⟩
      · rw [t2_pl_s lF (by omega)]
        have hne := t2_pl_n0 (m := 24) (F := Fi) (i := i) lF (by omega)
        obtain ⟨r1, r2⟩ := hr (i + 1) (by omega)
        have w1 := wo (2 * i) (by omega)
        have w2 := wo (2 * i + 1) (by omega)
        rw [w1, show 167 + 2 * i + 1 = 167 + (2 * i + 1) by omega, w2, upd_ne (by omega), upd_ne (by omega), upd_ne (by omega), upd_ne (by omega), upd_ne (by omega), upd_ne (by omega)]
        exact ⟨r1, r2⟩
theorem c0_Bk.congr {fc' fr' : t2_F} (h : c0_Bk fc fr) (e1 : fc' 13 = fc 13) (e2 : fc' 14 = fc 14) (e3 : ∀ w : Nat, (w = 20 ∨ (167 ≤ w ∧ w < 215)) → fr' 280 w = fr 280 w) : c0_Bk fc' fr' := by
  obtain ⟨h0, hF, h3, hn, hr⟩ := h
  unfold c0_Bk
  rw [e1, e2, e3 20 (Or.inl rfl)]
  exact ⟨h0, hF, h3, hn, fun i hi => by rw [e3 _ (by omega), e3 _ (by omega)]; exact hr i hi⟩
end C0FPK

end

/-! 94.13.fts.lean.txt -/
section
/-! ===== block 0: (7) of a second, whole ===== -/
section C0FTS
variable {fc fr f g F G : t2_F} {C n k : Nat} {c x y z : Int32}
/-- the reference's words when it asks which faults are so -/
noncomputable def r_gp (f : t2_F) : t2_F := fl_row f 280 (upd (upd (upd (f 280) 15 (r_goFaults_j18_0 f)) 16 (r_goFaults_j53_0 f)) 22 ((f 280 22) + (1 : Int32)))
theorem r_gp_w {w : Nat} (h1 : w ≠ 15) (h2 : w ≠ 16) (h3 : w ≠ 22) : r_gp fr 280 w = fr 280 w := by
  unfold r_gp
  rw [fl_row_self, upd_ne h3, upd_ne h2, upd_ne h1]
theorem r_a91_bt : ∀ n : Nat, n ≤ 11 → ∀ k : Nat, k < 11 → t2_bt (r_goFaults_a91 fr n) k = (decide (k < n) && decide (¬ (r_isSo_v (r_gp fr) (Int32.ofNat k)).toInt = 0)) := by
  intro n
  induction n with
  | zero => intro _ k _; rw [decide_eq_false (Nat.not_lt_zero k), Bool.false_and]; exact t2_bt0
  | succ n ih =>
    intro hn k hk
    show t2_bt ((r_goFaults_a91 fr n) ||| (if (r_isSo_v (r_gp fr) (Int32.ofNat n)).toInt = 0 then (0 : Int32) else (1 : Int32) <<< ((Int32.ofNat n) &&& 31))) k = _
    rw [t2_bt_or, ih (by omega) k hk]
    have hb : t2_bt ((1 : Int32) <<< ((Int32.ofNat n) &&& 31)) k = decide (k = n) := by
      unfold t2_bt
      rw [t2_one ⟨n, by omega⟩]
      exact t2_bs (by omega)
    by_cases e : k = n
    · subst e
      rw [decide_eq_false (Nat.lt_irrefl k), Bool.false_and, Bool.false_or, decide_eq_true (show k < k + 1 by omega), Bool.true_and]
      by_cases h : (r_isSo_v (r_gp fr) (Int32.ofNat k)).toInt = 0
      · rw [if_pos h, t2_bt0]
        exact (decide_eq_false (fun q => q h)).symm
      · rw [if_neg h, hb, decide_eq_true rfl]
        exact (decide_eq_true h).symm
    · have h0 : t2_bt (if (r_isSo_v (r_gp fr) (Int32.ofNat n)).toInt = 0 then (0 : Int32) else (1 : Int32) <<< ((Int32.ofNat n) &&& 31)) k = false := by
        by_cases h : (r_isSo_v (r_gp fr) (Int32.ofNat n)).toInt = 0
        · rw [if_pos h, t2_bt0]
        · rw [if_neg h, hb, decide_eq_false e]
      rw [h0, Bool.or_false]
      by_cases l : k < n
      · rw [decide_eq_true l, decide_eq_true (show k < n + 1 by omega)]
      · rw [decide_eq_false l, decide_eq_false (show ¬ k < n + 1 by omega)]
/-- which faults are so, by number: the reference -/
theorem r_isSo_b {slow : Bool} (hs : g 277 4 = if slow = true then 1 else 0) : ∀ k : Nat, k < 11 → decide (¬ (r_isSo_v g (Int32.ofNat k)).toInt = 0) = ((slow && decide (k = 5)) || t2_cb (decide (¬ (r_soBy_v g (0 : Int32)).toInt = (-1 : Int32).toInt)) (decide (¬ (r_soBy_v g (1 : Int32)).toInt = (-1 : Int32).toInt)) (decide (¬ (r_soBy_v g (2 : Int32)).toInt = (-1 : Int32).toInt) || decide ((g 280 36).toInt < (g 280 8).toInt)) (decide (¬ (r_soBy_v g (3 : Int32)).toInt = (-1 : Int32).toInt)) k || t2_pk (decide ((g 280 3).toInt = (2 : Int32).toInt ∧ (g 280 38).toInt < (r_size_v (g 280 54)).toInt)) (decide (¬ (g 280 15).toInt < (3 : Int32).toInt)) (decide ((g 280 51).toInt < (r_spreadOf_v g).toInt)) (decide (¬ (g 280 16).toInt < (2 : Int32).toInt)) (decide (¬ (g 280 62).toInt = 0 ∧ (g 280 62).toInt < (g 280 22).toInt)) (decide ((g 280 63).toInt = 0)) k) := by
  have c1 : (1 : Int32).toInt = 1 := by decide +kernel
  have c0 : (0 : Int32).toInt = 0 := rfl
  have d10 : ∀ (P : Prop) [Decidable P], decide (¬ (if P then (1 : Int32) else (0 : Int32)).toInt = 0) = decide P := by
    intro P _
    by_cases h : P
    · rw [if_pos h, decide_eq_true h]; exact decide_eq_true (by omega)
    · rw [if_neg h, decide_eq_false h]; exact decide_eq_false (fun q => q c0)
  have d01 : ∀ (P : Prop) [Decidable P], decide (¬ (if P then (0 : Int32) else (1 : Int32)).toInt = 0) = decide (¬ P) := by
    intro P _
    by_cases h : P
    · rw [if_pos h, decide_eq_false (fun q => q c0), decide_eq_false (fun q => q h)]
    · rw [if_neg h, decide_eq_true (show ¬ (1 : Int32).toInt = 0 by omega), decide_eq_true h]
  have d2 : ∀ (P R : Prop) [Decidable P] [Decidable R], decide (¬ (if P then (if R then (1 : Int32) else (0 : Int32)) else (0 : Int32)).toInt = 0) = decide (P ∧ R) := by
    intro P R _ _
    by_cases h : P
    · rw [if_pos h, d10 R]
      by_cases r : R
      · rw [decide_eq_true r, decide_eq_true ⟨h, r⟩]
      · rw [decide_eq_false r, decide_eq_false (fun q => r q.2)]
    · rw [if_neg h, decide_eq_false (fun q => q c0), decide_eq_false (fun q => h q.1)]
  have d3 : ∀ (P R : Prop) [Decidable P] [Decidable R], decide (¬ (if P then (if R then (1 : Int32) else (0 : Int32)) else (1 : Int32)).toInt = 0) = (decide (¬ P) || decide R) := by
    intro P R _ _
    by_cases h : P
    · have hf : decide (¬ P) = false := decide_eq_false (fun q => q h)
      rw [if_pos h, d10 R, hf, Bool.false_or]
    · rw [if_neg h, decide_eq_true (show ¬ (1 : Int32).toInt = 0 by omega), decide_eq_true h, Bool.true_or]
  have d4 : ∀ (P R : Prop) [Decidable P] [Decidable R], decide (¬ (if P then (0 : Int32) else (if R then (1 : Int32) else (0 : Int32))).toInt = 0) = decide (¬ P ∧ R) := by
    intro P R _ _
    by_cases h : P
    · rw [if_pos h, decide_eq_false (fun q => q c0), decide_eq_false (fun q => q.1 h)]
    · rw [if_neg h, d10 R]
      by_cases r : R
      · rw [decide_eq_true r, decide_eq_true ⟨h, r⟩]
      · rw [decide_eq_false r, decide_eq_false (fun q => r q.2)]
  intro k hk
  unfold r_isSo_v
  have n2 : (2 : Int32).toInt = 2 := by decide +kernel
  have n4 : (4 : Int32).toInt = 4 := by decide +kernel
  have n3 : (3 : Int32).toInt = 3 := by decide +kernel
  have n5 : (5 : Int32).toInt = 5 := by decide +kernel
  have n6 : (6 : Int32).toInt = 6 := by decide +kernel
  have n7 : (7 : Int32).toInt = 7 := by decide +kernel
  have n8 : (8 : Int32).toInt = 8 := by decide +kernel
  have n9 : (9 : Int32).toInt = 9 := by decide +kernel
  rcases (show k = 0 ∨ k = 1 ∨ k = 2 ∨ k = 3 ∨ k = 4 ∨ k = 5 ∨ k = 6 ∨ k = 7 ∨ k = 8 ∨ k = 9 ∨ k = 10 by omega) with h | h | h | h | h | h | h | h | h | h | h <;> subst h
  · have ex : (Int32.ofNat 0).toInt = 0 := at_ofN (by omega)
    rw [if_pos (show (Int32.ofNat 0).toInt < (4 : Int32).toInt by omega), if_neg (show ¬ (Int32.ofNat 0).toInt = (2 : Int32).toInt by omega), d01]
    have eo : Int32.ofNat 0 = (0 : Int32) := rfl
    rw [eo]
    simp [t2_cb, t2_pk]
  · have ex : (Int32.ofNat 1).toInt = 1 := at_ofN (by omega)
    rw [if_pos (show (Int32.ofNat 1).toInt < (4 : Int32).toInt by omega), if_neg (show ¬ (Int32.ofNat 1).toInt = (2 : Int32).toInt by omega), d01]
    have eo : Int32.ofNat 1 = (1 : Int32) := rfl
    rw [eo]
    simp [t2_cb, t2_pk]
  · have ex : (Int32.ofNat 2).toInt = 2 := at_ofN (by omega)
    rw [if_pos (show (Int32.ofNat 2).toInt < (4 : Int32).toInt by omega), if_pos (show (Int32.ofNat 2).toInt = (2 : Int32).toInt by omega), d3]
    have eo : Int32.ofNat 2 = (2 : Int32) := rfl
    rw [eo]
    simp [t2_cb, t2_pk]
  · have ex : (Int32.ofNat 3).toInt = 3 := at_ofN (by omega)
    rw [if_pos (show (Int32.ofNat 3).toInt < (4 : Int32).toInt by omega), if_neg (show ¬ (Int32.ofNat 3).toInt = (2 : Int32).toInt by omega), d01]
    have eo : Int32.ofNat 3 = (3 : Int32) := rfl
    rw [eo]
    simp [t2_cb, t2_pk]
  · have ex : (Int32.ofNat 4).toInt = 4 := at_ofN (by omega)
    rw [if_neg (show ¬ (Int32.ofNat 4).toInt < (4 : Int32).toInt by omega), if_pos (show (Int32.ofNat 4).toInt = (4 : Int32).toInt by omega), d2]
    simp [t2_cb, t2_pk]
  · have ex : (Int32.ofNat 5).toInt = 5 := at_ofN (by omega)
    rw [if_neg (show ¬ (Int32.ofNat 5).toInt < (4 : Int32).toInt by omega), if_neg (show ¬ (Int32.ofNat 5).toInt = (4 : Int32).toInt by omega), if_pos (show (Int32.ofNat 5).toInt = (5 : Int32).toInt by omega), hs]
    cases slow
    · simp [t2_cb, t2_pk]
    · simp [t2_cb, t2_pk]
  · have ex : (Int32.ofNat 6).toInt = 6 := at_ofN (by omega)
    rw [if_neg (show ¬ (Int32.ofNat 6).toInt < (4 : Int32).toInt by omega), if_neg (show ¬ (Int32.ofNat 6).toInt = (4 : Int32).toInt by omega), if_neg (show ¬ (Int32.ofNat 6).toInt = (5 : Int32).toInt by omega), if_pos (show (Int32.ofNat 6).toInt = (6 : Int32).toInt by omega), d01]
    simp [t2_cb, t2_pk]
  · have ex : (Int32.ofNat 7).toInt = 7 := at_ofN (by omega)
    rw [if_neg (show ¬ (Int32.ofNat 7).toInt < (4 : Int32).toInt by omega), if_neg (show ¬ (Int32.ofNat 7).toInt = (4 : Int32).toInt by omega), if_neg (show ¬ (Int32.ofNat 7).toInt = (5 : Int32).toInt by omega), if_neg (show ¬ (Int32.ofNat 7).toInt = (6 : Int32).toInt by omega), if_pos (show (Int32.ofNat 7).toInt = (7 : Int32).toInt by omega), d10]
    simp [t2_cb, t2_pk]
  · have ex : (Int32.ofNat 8).toInt = 8 := at_ofN (by omega)
    rw [if_neg (show ¬ (Int32.ofNat 8).toInt < (4 : Int32).toInt by omega), if_neg (show ¬ (Int32.ofNat 8).toInt = (4 : Int32).toInt by omega), if_neg (show ¬ (Int32.ofNat 8).toInt = (5 : Int32).toInt by omega), if_neg (show ¬ (Int32.ofNat 8).toInt = (6 : Int32).toInt by omega), if_neg (show ¬ (Int32.ofNat 8).toInt = (7 : Int32).toInt by omega), if_pos (show (Int32.ofNat 8).toInt = (8 : Int32).toInt by omega), d01]
    simp [t2_cb, t2_pk]
  · have ex : (Int32.ofNat 9).toInt = 9 := at_ofN (by omega)
    rw [if_neg (show ¬ (Int32.ofNat 9).toInt < (4 : Int32).toInt by omega), if_neg (show ¬ (Int32.ofNat 9).toInt = (4 : Int32).toInt by omega), if_neg (show ¬ (Int32.ofNat 9).toInt = (5 : Int32).toInt by omega), if_neg (show ¬ (Int32.ofNat 9).toInt = (6 : Int32).toInt by omega), if_neg (show ¬ (Int32.ofNat 9).toInt = (7 : Int32).toInt by omega), if_neg (show ¬ (Int32.ofNat 9).toInt = (8 : Int32).toInt by omega), if_pos (show (Int32.ofNat 9).toInt = (9 : Int32).toInt by omega), d4]
    simp [t2_cb, t2_pk]
  · have ex : (Int32.ofNat 10).toInt = 10 := at_ofN (by omega)
    rw [if_neg (show ¬ (Int32.ofNat 10).toInt < (4 : Int32).toInt by omega), if_neg (show ¬ (Int32.ofNat 10).toInt = (4 : Int32).toInt by omega), if_neg (show ¬ (Int32.ofNat 10).toInt = (5 : Int32).toInt by omega), if_neg (show ¬ (Int32.ofNat 10).toInt = (6 : Int32).toInt by omega), if_neg (show ¬ (Int32.ofNat 10).toInt = (7 : Int32).toInt by omega), if_neg (show ¬ (Int32.ofNat 10).toInt = (8 : Int32).toInt by omega), if_neg (show ¬ (Int32.ofNat 10).toInt = (9 : Int32).toInt by omega), d10]
    simp [t2_cb, t2_pk]
end C0FTS

end

/-! 94.14.flo.lean.txt -/
section
/-! ===== block 0: (7) of a second: latched ===== -/
section C0FLO
variable {fc fr f g F G : t2_F} {C n k : Nat} {c x y z : Int32}
theorem r_soBy_c {f f' : t2_F} (h : ∀ w : Nat, (w = 2 ∨ w = 5 ∨ (34 ≤ w ∧ w < 64) ∨ 444 ≤ w) → f' 280 w = f 280 w) : r_soBy_v f' x = r_soBy_v f x := by
  have e : ∀ k : Nat, r_soBy_e2 f' x k = r_soBy_e2 f x k := by
    intro k
    induction k with
    | zero => rfl
    | succ k ih =>
      unfold r_soBy_e2
      rw [ih, r_volts_c (h 5 (by omega)) (h _ (by omega)) (h _ (by omega)) (h _ (by omega)) (h _ (by omega)), h 34 (by omega), h 35 (by omega), h 36 (by omega), h 37 (by omega), h 5 (by omega), h (444 + 61 * k + 3) (by omega)]
  unfold r_soBy_v
  rw [e, h 2 (by omega)]
theorem c0_spread_a (h : ∀ C : Nat, C < n → fc (18 + 4 * C) 3 = r_partOf_v fr (Int32.ofNat C) C) : ∀ k : Nat, k ≤ n → c0_spreadOf_a10 fc y k = (r_leastPart_a6 fr k, r_spreadOf_a4 fr k) := by
  intro k
  induction k with
  | zero => intro _; rfl
  | succ k ih =>
    intro hk
    unfold c0_spreadOf_a10 r_leastPart_a6 r_spreadOf_a4
    rw [ih (by omega), h k (by omega), t2_les]
    rfl
theorem c0_spread_eq (hn1 : (fc 1 5).toInt = n) (hn2 : (fr 280 2).toInt = n) (h : ∀ C : Nat, C < n → fc (18 + 4 * C) 3 = r_partOf_v fr (Int32.ofNat C) C) : c0_partSpread_v fc = if n = 0 then (-1 : Int32) else r_spreadOf_v fr := by
  have hnn : (fc 1 5).toInt.toNat = n := by omega
  have hgn : (fr 280 2).toInt.toNat = n := by omega
  unfold c0_partSpread_v c0_partSpread_j4_0 r_spreadOf_v r_spreadOf_j45_0 c0_spreadOf_v r_leastPart_v
  by_cases e : n = 0
  · rw [if_pos e, if_pos (by omega)]
  · rw [if_neg e, if_neg (by omega), if_neg (by omega), hnn, hgn, c0_spread_a h n (Nat.le_refl n)]
def c0_R7 (fc fr : t2_F) (n : Nat) : Prop := ((fc 1 5).toInt = n ∧ (fr 280 2).toInt = n ∧ n ≤ 16) ∧ (fc 1 6 = fr 280 7 ∧ fc 1 7 = fr 280 3 ∧ fc 1 9 = fr 280 5 ∧ fc 1 11 = fr 280 8) ∧ c0_Rs fc fr ∧ (c0_Rk fc fr ∧ ∀ k : Nat, k < 3 → t2_how (fr 280 (64 + k))) ∧
  (∀ C : Nat, C < n → c0_voltsAt_v fc C (fc 1 9) = r_voltsOf_v fr (Int32.ofNat C) C ∧ fc (18 + 4 * C) 6 = fr 280 (444 + 61 * C + 3) ∧ fc (18 + 4 * C) 3 = r_partOf_v fr (Int32.ofNat C) C) ∧
  (fc 10 3 = fr 280 6 ∧ fc 10 4 = fr 280 22 ∧ fc 10 5 = fr 280 15 ∧ ((fc 10 6).toInt = min (fr 280 16).toInt 1 ∧ 0 ≤ (fr 280 16).toInt ∧ (fr 280 16).toInt ≤ 2)) ∧ (∀ j : Nat, j < 11 → fc 11 j = fr 280 (23 + j)) ∧ (∀ j : Nat, j < 4 → fc 12 j = fr 280 (311 + j)) ∧ c0_Bk fc fr ∧ 1 ≤ (fr 280 51).toInt
/-- the class's bits and the reference's -/
theorem c0_bits {so : Int32} {slow : Bool} (h : c0_R7 fc fr n) (hso : so = if slow = true then (32 : Int32) else (0 : Int32)) (hsl : fr 277 4 = if slow = true then 1 else 0) : ∀ k : Nat, k < 11 → t2_bt ((so ||| c0_faultsOfCells_v fc) ||| c0_faultsOfPack_v (c0_faultsOfCells_m fc)) k = t2_bt (r_goFaults_a91 fr 11) k := by
  obtain ⟨⟨hn1, hn2, hn16⟩, ⟨e6, e7, e9, e11⟩, hs, ⟨hk, hw⟩, hc, ⟨l3, l4, l5, ⟨l6, l61, l62⟩⟩, hwh, hcu, hbk, hsp⟩ := h
  have c1 : (1 : Int32).toInt = 1 := by decide +kernel
  have c2 : (2 : Int32).toInt = 2 := by decide +kernel
  have c3 : (3 : Int32).toInt = 3 := by decide +kernel
  have c0 : (0 : Int32).toInt = 0 := rfl
  have s2 : fc 4 2 = fr 280 36 := hs 2 (by omega)
  have s4 : fc 4 4 = fr 280 38 := hs 4 (by omega)
  have s9 : fc 4 9 = fr 280 43 := hs 9 (by omega)
  have s10 : fc 4 10 = fr 280 44 := hs 10 (by omega)
  have s17 : fc 4 17 = fr 280 51 := hs 17 (by omega)
  have s20 : fc 4 20 = fr 280 54 := hs 20 (by omega)
  have s28 : fc 4 28 = fr 280 62 := hs 28 (by omega)
  have s29 : fc 4 29 = fr 280 63 := hs 29 (by omega)
  have gw : ∀ w : Nat, w ≠ 15 → w ≠ 16 → w ≠ 22 → r_gp fr 280 w = fr 280 w := fun w a b d => r_gp_w a b d
  have gv : ∀ C : Nat, r_voltsOf_v (r_gp fr) (Int32.ofNat C) C = r_voltsOf_v fr (Int32.ofNat C) C := fun C => r_volts_c (gw _ (by decide) (by decide) (by decide)) (gw _ (by omega) (by omega) (by omega)) (gw _ (by omega) (by omega) (by omega)) (gw _ (by omega) (by omega) (by omega)) (gw _ (by omega) (by omega) (by omega))
  have gp : ∀ C : Nat, r_partOf_v (r_gp fr) (Int32.ofNat C) C = r_partOf_v fr (Int32.ofNat C) C := fun C => by
    unfold r_partOf_v
    rw [gw _ (by omega) (by omega) (by omega), gw _ (by omega) (by omega) (by omega)]
  have g2 : (r_gp fr 280 2).toInt = n := by rw [gw 2 (by decide) (by decide) (by decide)]; exact hn2
  obtain ⟨q0, q1, q2, q3⟩ := c0_four (fc := fc) (fr := r_gp fr) hn1 g2 hn16 (fun C hC => by rw [gv]; exact (hc C hC).1) (fun C hC => by rw [gw _ (by omega) (by omega) (by omega)]; exact (hc C hC).2.1) (by rw [gw 5 (by decide) (by decide) (by decide)]; exact e9) (fun k hk => by rw [gw _ (by omega) (by omega) (by omega)]; exact hs k hk)
  have f1 : ∀ p : Nat, p ≠ 12 → c0_faultsOfCells_m fc p = fc p := fun p hp => c0_faultsOfCells_fr hp
  have lv := c0_live_c (f := fc) (f' := c0_faultsOfCells_m fc) (by rw [f1 _ (by decide)]) (f1 _ (by decide))
  have spc : c0_partSpread_v (c0_faultsOfCells_m fc) = c0_partSpread_v fc := c0_spread_c (f1 _ (by decide)) (fun C => f1 _ (by omega))
  have ac := c0_actual_eq e7 hk hw
  have od := c0_ordered_eq (fc := fc) (fr := fr) e7
  have hj2 : c0_leakBit_j2_0 (c0_faultsOfCells_m fc) (c0_faultsOfPack_j59_0 (c0_faultsOfCells_m fc)) = r_goFaults_j18_0 fr := by
    unfold c0_leakBit_j2_0 c0_faultsOfPack_j59_0 r_goFaults_j18_0
    rw [f1 4 (by decide), f1 10 (by decide), s9, s10, l5, t2_les]
    by_cases q : (fr 280 43).toInt < (fr 280 44).toInt
    · rw [if_pos q, if_neg (by omega), if_pos q]
    · rw [if_neg q, if_pos c0, if_neg q]
  have g15 : r_gp fr 280 15 = r_goFaults_j18_0 fr := by
    unfold r_gp
    rw [fl_row_self, upd_ne (by decide), upd_ne (by decide), upd_self]
  have g16 : r_gp fr 280 16 = r_goFaults_j53_0 fr := by
    unfold r_gp
    rw [fl_row_self, upd_ne (by decide), upd_self]
  have g22 : r_gp fr 280 22 = fr 280 22 + (1 : Int32) := by
    unfold r_gp
    rw [fl_row_self, upd_self]
  have le3 : (r_goFaults_j18_0 fr).toInt ≤ 3 := by
    unfold r_goFaults_j18_0
    rw [t2_les]
    split
    · rw [t2_min_i]; omega
    · omega
  have p6 : decide ((r_goFaults_j18_0 fr).toInt = (3 : Int32).toInt) = decide (¬ (r_gp fr 280 15).toInt < (3 : Int32).toInt) := by
    rw [g15]
    exact decide_eq_decide.mpr ⟨fun q => by omega, fun q => by omega⟩
  have p7 : decide ((fr 280 51).toInt < (c0_partSpread_v fc).toInt) = decide ((r_gp fr 280 51).toInt < (r_spreadOf_v (r_gp fr)).toInt) := by
    have m1 : (-1 : Int32).toInt = -1 := by decide +kernel
    rw [gw 51 (by decide) (by decide) (by decide), c0_spread_eq (fr := r_gp fr) hn1 g2 (fun C hC => by rw [gp]; exact (hc C hC).2.2)]
    by_cases e : n = 0
    · have z : r_spreadOf_v (r_gp fr) = 0 := by
        unfold r_spreadOf_v r_spreadOf_j45_0
        rw [if_pos (by omega)]
      rw [if_pos e, z]
      exact decide_eq_decide.mpr ⟨fun q => by omega, fun q => by omega⟩
    · rw [if_neg e]
  have ordg : r_ordered_v (fl_row fr 280 (upd (fr 280) 15 (r_goFaults_j18_0 fr))) = r_ordered_v fr ∧ r_actual_v (fl_row fr 280 (upd (fr 280) 15 (r_goFaults_j18_0 fr))) = r_actual_v fr := by
    have l := r_live_c (f := fr) (f' := fl_row fr 280 (upd (fr 280) 15 (r_goFaults_j18_0 fr))) (by rw [fl_row_self, upd_ne (by decide)]) (fun k hk => by rw [fl_row_self, upd_ne (by omega)])
    exact ⟨l.2.2, l.1⟩
  have p8 : (decide (¬ (r_actual_v fr).toInt = (r_ordered_v fr).toInt) && decide (¬ (fc 10 6).toInt = 0)) = decide (¬ (r_gp fr 280 16).toInt < (2 : Int32).toInt) := by
    rw [g16]
    unfold r_goFaults_j53_0
    rw [ordg.1, ordg.2]
    by_cases d : (r_actual_v fr).toInt = (r_ordered_v fr).toInt
    · rw [if_pos d]
      have df : decide (¬ (r_actual_v fr).toInt = (r_ordered_v fr).toInt) = false := decide_eq_false (fun q => q d)
      rw [df, Bool.false_and]
      exact (decide_eq_false (fun q => q (by omega))).symm
    · rw [if_neg d, decide_eq_true d, Bool.true_and, t2_les]
      have a : (fr 280 16 + (1 : Int32)).toInt = (fr 280 16).toInt + 1 := by rw [at_add32] <;> omega
      refine decide_eq_decide.mpr ?_
      rw [t2_min_i]
      omega
  intro k hk11
  have bso : t2_bt so k = (slow && decide (k = 5)) := by
    rw [hso]
    have := t2_bt_if (P := slow = true) (c := (32 : Int32)) (i := 5) (by decide +kernel) hk11
    rw [this]
    cases slow <;> rfl
  have fin := c0_fcv (fc := fc) (n := n) (by omega) q0 q1 q2 q3 ⟨k, hk11⟩
  rw [t2_bt_or, t2_bt_or, bso, fin, c0_fp_bits hk11, r_a91_bt 11 (Nat.le_refl 11) k hk11, decide_eq_true hk11, Bool.true_and, r_isSo_b (slow := slow) (by unfold r_gp; rw [fl_row_ne (by decide)]; exact hsl) k hk11]
  rw [lv.1, lv.2.2, spc, hj2, f1 1 (by decide), f1 4 (by decide), f1 10 (by decide), ac, od, p8, s17, p7, p6, s2, s4, s20, s28, s29, e7, e11, l4, gw 36 (by decide) (by decide) (by decide), gw 8 (by decide) (by decide) (by decide), gw 3 (by decide) (by decide) (by decide), gw 38 (by decide) (by decide) (by decide), gw 54 (by decide) (by decide) (by decide), gw 62 (by decide) (by decide) (by decide), gw 63 (by decide) (by decide) (by decide), g22]
  rfl
end C0FLO

end

/-! 94.15.lat.lean.txt -/
section
/-! ===== block 0: (7) of a second: the loop ===== -/
section C0LAT
variable {fc fr f g F G A B : t2_F} {C n k : Nat} {c x y z : Int32}
theorem c0_badd_13 {t : Int32} {p : Nat} (h14 : p ≠ 14) (h13 : p ≠ 13) : c0_badd_m A t x z p = A p := c0_badd_fr h14 h13
/-- class and reference behind k numbers -/
def c0_LK (g : t2_F) (A B : t2_F) (a b : Int32) (y : Int32) (Z : Int32) (k : Nat) : Prop := A 10 3 = B 280 6 ∧ (∀ j : Nat, j < 11 → A 11 j = B 280 (23 + j)) ∧ c0_Bk A B ∧ a = b ∧ B 280 7 = y ∧ (∀ j : Nat, j < 4 → B 280 (311 + j) = if j < k ∧ t2_bt Z j = true then r_soBy_v g (Int32.ofNat j) else g 280 (311 + j))
theorem c0_LK_step {X Z a b : Int32} (hk : k < 11) (hX : t2_bt X k = t2_bt Z k) (h : c0_LK g A B a b y Z k) (hs : r_soBy_v B (Int32.ofNat k) = r_soBy_v g (Int32.ofNat k)) : c0_LK g (c0_latch_b5_m A X y a k) (r_goFaults_b123_m B Z b k) (c0_latch_b5_v A X y a k) (r_goFaults_b123_v B Z b k) y Z (k + 1) := by
  obtain ⟨h6, h11, hb, hab, hy, hc⟩ := h
  have ek : (Int32.ofNat k).toInt = k := at_ofN (by omega)
  have c4 : (4 : Int32).toInt = 4 := by decide +kernel
  have hb20 : 0 ≤ (B 280 20).toInt ∧ (B 280 20).toInt ≤ 24 := hb.2.2.2.1
  unfold c0_latch_b5_v c0_latch_b5_j22_0 c0_latch_b5_m r_goFaults_b123_v r_goFaults_b123_j134_0 r_goFaults_b123_m
  by_cases hz : t2_bt Z k = false
  · have x0 : (X &&& ((1 : Int32) <<< ((Int32.ofNat k) &&& 31))).toInt = 0 := (t2_anb (by omega)).mpr (hX.trans hz)
    have z0 : (r_has_v Z (Int32.ofNat k)).toInt = 0 := (t2_has0 (by omega)).mpr hz
    simp only [if_pos x0, if_pos z0]
    refine ⟨h6, h11, hb, hab, hy, fun j hj => ?_⟩
    rw [hc j hj]
    by_cases e : j = k
    · subst e
      rw [if_neg (fun q => Nat.lt_irrefl j q.1), if_neg (fun q => by rw [hz] at q; exact Bool.false_ne_true q.2)]
    · by_cases q : j < k ∧ t2_bt Z j = true
      · rw [if_pos q, if_pos ⟨by omega, q.2⟩]
      · rw [if_neg q, if_neg (fun r => q ⟨by omega, r.2⟩)]
  · have hz1 : t2_bt Z k = true := by
      cases e : t2_bt Z k with
      | true => rfl
      | false => exact absurd e hz
    have x0 : ¬ (X &&& ((1 : Int32) <<< ((Int32.ofNat k) &&& 31))).toInt = 0 := fun q => hz (hX.symm.trans ((t2_anb (by omega)).mp q))
    have z0 : ¬ (r_has_v Z (Int32.ofNat k)).toInt = 0 := fun q => hz ((t2_has0 (by omega)).mp q)
    simp only [if_neg x0, if_neg z0, h6, hs]
    have culp : ∀ (W : Nat → Int32), (∀ j : Nat, j < 4 → W (311 + j) = if j = k then r_soBy_v g (Int32.ofNat j) else B 280 (311 + j)) → ∀ j : Nat, j < 4 → W (311 + j) = if j < k + 1 ∧ t2_bt Z j = true then r_soBy_v g (Int32.ofNat j) else g 280 (311 + j) := by
      intro W hW j hj
      rw [hW j hj]
      by_cases e : j = k
      · subst e
        rw [if_pos rfl, if_pos ⟨Nat.lt_succ_self j, hz1⟩]
      · rw [if_neg e, hc j hj]
        by_cases q : j < k ∧ t2_bt Z j = true
        · rw [if_pos q, if_pos ⟨by omega, q.2⟩]
        · rw [if_neg q, if_neg (fun r => q ⟨by omega, r.2⟩)]
    by_cases hl : t2_bt (B 280 6) k = false
    · -- latched now
      have l0 : (B 280 6 &&& ((1 : Int32) <<< ((Int32.ofNat k) &&& 31))).toInt = 0 := (t2_anb (by omega)).mpr hl
      have l1 : (r_has_v (B 280 6) (Int32.ofNat k)).toInt = 0 := (t2_has0 (by omega)).mpr hl
      simp only [if_pos l0, if_pos l1]
      have fin : ∀ M : t2_F, (∀ w : Nat, w ≠ 6 → w ≠ 23 + k → (w < 311 ∨ 315 ≤ w) → M 280 w = B 280 w) → M 280 6 = B 280 6 ||| ((1 : Int32) <<< ((Int32.ofNat k) &&& 31)) → M 280 (23 + k) = B 280 7 → (∀ j : Nat, j < 4 → M 280 (311 + j) = if j = k then r_soBy_v g (Int32.ofNat j) else B 280 (311 + j)) →
          c0_LK g (c0_badd_m (fl_row (fl_row A 11 (upd (A 11) k y)) 10 (upd (A 10) 3 (B 280 6 ||| ((1 : Int32) <<< ((Int32.ofNat k) &&& 31))))) y (Int32.ofNat k) (0 : Int32)) (r_writeDown_m M (Int32.ofNat k)) (a + (1 : Int32)) (b + (1 : Int32)) y Z (k + 1) := by
        intro M m1 m2 m3 m4
        have mb : 0 ≤ (M 280 20).toInt ∧ (M 280 20).toInt ≤ 24 := by rw [m1 20 (by decide) (by omega) (by decide)]; exact hb20
        have wd : ∀ w : Nat, w ≠ 20 → (w < 167 ∨ 217 ≤ w) → r_writeDown_m M (Int32.ofNat k) 280 w = M 280 w := fun w a1 a2 => r_writeDown_w mb ⟨a1, a2⟩
        have m7 : M 280 7 = y := by rw [m1 7 (by decide) (by omega) (by decide)]; exact hy
        refine ⟨?_, fun j hj => ?_, ?_, by rw [hab], ?_, ?_⟩
        · rw [c0_badd_13 (by decide) (by decide), fl_row_self, upd_self, wd 6 (by decide) (by decide), m2]
        · rw [c0_badd_13 (by decide) (by decide), fl_row_ne (by decide), fl_row_self, wd (23 + j) (by omega) (by omega)]
          by_cases e : j = k
          · subst e
            rw [upd_self, m3, hy]
          · rw [upd_ne e, m1 (23 + j) (by omega) (by omega) (by omega)]
            exact h11 j hj
        · refine c0_bk_add (hb.congr ?_ ?_ (fun w hw => m1 w (by omega) (by omega) (by omega))) m7
          · rw [fl_row_ne (by decide), fl_row_ne (by decide)]
          · rw [fl_row_ne (by decide), fl_row_ne (by decide)]
        · rw [wd 7 (by decide) (by decide), m7]
        · exact culp (fun w => r_writeDown_m M (Int32.ofNat k) 280 w) (fun j hj => by
            show r_writeDown_m M (Int32.ofNat k) 280 (311 + j) = _
            rw [wd (311 + j) (by omega) (by omega), m4 j hj])
      by_cases h4 : (Int32.ofNat k).toInt < (4 : Int32).toInt
      · simp only [if_pos h4]
        refine fin _ (fun w a1 a2 a3 => ?_) ?_ ?_ (fun j hj => ?_)
        · rw [fl_row_self, upd_ne a1, upd_ne a2, upd_ne (by omega)]
        · rw [fl_row_self, upd_self]
        · rw [fl_row_self, upd_ne (by omega), upd_self]
        · rw [fl_row_self, upd_ne (by omega), upd_ne (by omega)]
          by_cases e : j = k
          · subst e
            rw [upd_self, if_pos rfl]
          · rw [upd_ne (by omega), if_neg e]
      · simp only [if_neg h4]
        refine fin _ (fun w a1 a2 a3 => ?_) ?_ ?_ (fun j hj => ?_)
        · rw [fl_row_self, upd_ne a1, upd_ne a2]
        · rw [fl_row_self, upd_self]
        · rw [fl_row_self, upd_ne (by omega), upd_self]
        · rw [fl_row_self, upd_ne (by omega), upd_ne (by omega), if_neg (by omega)]
    · have l0 : ¬ (B 280 6 &&& ((1 : Int32) <<< ((Int32.ofNat k) &&& 31))).toInt = 0 := fun q => hl ((t2_anb (by omega)).mp q)
      have l1 : ¬ (r_has_v (B 280 6) (Int32.ofNat k)).toInt = 0 := fun q => hl ((t2_has0 (by omega)).mp q)
      simp only [if_neg l0, if_neg l1]
      have fin : ∀ M : t2_F, (∀ w : Nat, w ≠ 23 + k → (w < 311 ∨ 315 ≤ w) → M 280 w = B 280 w) → M 280 (23 + k) = B 280 7 → (∀ j : Nat, j < 4 → M 280 (311 + j) = if j = k then r_soBy_v g (Int32.ofNat j) else B 280 (311 + j)) →
          c0_LK g (fl_row A 11 (upd (A 11) k y)) M a b y Z (k + 1) := by
        intro M m1 m3 m4
        refine ⟨?_, fun j hj => ?_, ?_, hab, ?_, ?_⟩
        · rw [fl_row_ne (by decide), m1 6 (by omega) (by decide)]
          exact h6
        · rw [fl_row_self]
          by_cases e : j = k
          · subst e
            rw [upd_self, m3, hy]
          · rw [upd_ne e, m1 (23 + j) (by omega) (by omega)]
            exact h11 j hj
        · exact hb.congr (fl_row_ne (by decide)) (fl_row_ne (by decide)) (fun w hw => m1 w (by omega) (by omega))
        · rw [m1 7 (by omega) (by decide)]
          exact hy
        · exact culp (fun w => M 280 w) m4
      by_cases h4 : (Int32.ofNat k).toInt < (4 : Int32).toInt
      · simp only [if_pos h4, ite_self]
        refine fin _ (fun w a2 a3 => ?_) ?_ (fun j hj => ?_)
        · rw [fl_row_self, upd_ne a2, upd_ne (by omega)]
        · rw [fl_row_self, upd_self]
        · rw [fl_row_self, upd_ne (by omega)]
          by_cases e : j = k
          · subst e
            rw [upd_self, if_pos rfl]
          · rw [upd_ne (by omega), if_neg e]
      · simp only [if_neg h4, ite_self]
        refine fin _ (fun w a2 a3 => ?_) ?_ (fun j hj => ?_)
        · rw [fl_row_self, upd_ne a2]
        · rw [fl_row_self, upd_self]
        · rw [fl_row_self, upd_ne (by omega), if_neg (by omega)]
/-- (7) -/
theorem c0_faults_eq {so : Int32} {slow : Bool} (h : c0_R7 fc fr n) (hso : so = if slow = true then (32 : Int32) else (0 : Int32)) (hsl : fr 277 4 = if slow = true then 1 else 0) :
    (c0_latch_v (c0_faultsOfPack_m (c0_faultsOfCells_m fc)) ((so ||| c0_faultsOfCells_v fc) ||| c0_faultsOfPack_v (c0_faultsOfCells_m fc)) (fc 1 6) = r_goFaults_v fr) ∧
    ∀ F : t2_F, F = c0_latch_m (c0_faultsOfPack_m (c0_faultsOfCells_m fc)) ((so ||| c0_faultsOfCells_v fc) ||| c0_faultsOfPack_v (c0_faultsOfCells_m fc)) (fc 1 6) →
      (F 10 3 = r_goFaults_m fr 280 6 ∧ F 10 4 = r_goFaults_m fr 280 22 ∧ F 10 5 = r_goFaults_m fr 280 15 ∧ ((F 10 6).toInt = min (r_goFaults_m fr 280 16).toInt 1 ∧ 0 ≤ (r_goFaults_m fr 280 16).toInt ∧ (r_goFaults_m fr 280 16).toInt ≤ 2)) ∧ (∀ j : Nat, j < 11 → F 11 j = r_goFaults_m fr 280 (23 + j)) ∧ (∀ j : Nat, j < 4 → F 12 j = r_goFaults_m fr 280 (311 + j)) ∧ c0_Bk F (r_goFaults_m fr) ∧ r_goFaults_m fr 280 3 = (if (F 10 3).toInt = 0 then fc 1 7 else (0 : Int32)) := by
  have bits := c0_bits h hso hsl
  obtain ⟨⟨hn1, hn2, hn16⟩, ⟨e6, e7, e9, e11⟩, hs, ⟨hk, hw⟩, hc, ⟨l3, l4, l5, ⟨l6, l61, l62⟩⟩, hwh, hcu, hbk, hsp⟩ := h
  have c1 : (1 : Int32).toInt = 1 := by decide +kernel
  have c2 : (2 : Int32).toInt = 2 := by decide +kernel
  have c0 : (0 : Int32).toInt = 0 := rfl
  have hb20 : 0 ≤ (fr 280 20).toInt ∧ (fr 280 20).toInt ≤ 24 := hbk.2.2.2.1
  have f1 : ∀ p : Nat, p ≠ 12 → c0_faultsOfCells_m fc p = fc p := fun p hp => c0_faultsOfCells_fr hp
  have f2 : ∀ p : Nat, p ≠ 10 → c0_faultsOfPack_m (c0_faultsOfCells_m fc) p = c0_faultsOfCells_m fc p := fun p hp => c0_faultsOfPack_fr hp
  obtain ⟨m4, m5, m6, mo⟩ := c0_fp_m (f := c0_faultsOfCells_m fc)
  have gw : ∀ w : Nat, w ≠ 15 → w ≠ 16 → w ≠ 22 → r_gp fr 280 w = fr 280 w := fun w a b d => r_gp_w a b d
  have gB : ∀ k : Nat, k ≤ 11 → ∀ w : Nat, w ≠ 6 → w ≠ 20 → (w < 23 ∨ 34 ≤ w) → (w < 167 ∨ 217 ≤ w) → (w < 311 ∨ 315 ≤ w) → w ≠ 15 → w ≠ 16 → w ≠ 22 → r_goFaults_f123 fr k 280 w = fr 280 w := fun k hk w a1 a2 a3 a4 a5 a6 a7 a8 => r_goFaults_f123_w hb20 hk ⟨a1, a2, a3, a4, a5, a6, a7, a8⟩
  have B0 : r_goFaults_f123 fr 0 = r_gp fr := rfl
  generalize hX : (so ||| c0_faultsOfCells_v fc) ||| c0_faultsOfPack_v (c0_faultsOfCells_m fc) = X at bits
  generalize hf2 : c0_faultsOfPack_m (c0_faultsOfCells_m fc) = f2m at f2 m4 m5 m6 mo
  have loop : ∀ k : Nat, k ≤ 11 → c0_LK (r_gp fr) (c0_latch_f5 f2m X (fc 1 6) k) (r_goFaults_f123 fr k) (c0_latch_a5_0 f2m X (fc 1 6) k) (r_goFaults_a123_0 fr k) (fc 1 6) (r_goFaults_a91 fr 11) k := by
    intro k
    induction k with
    | zero =>
      intro _
      show c0_LK (r_gp fr) f2m (r_gp fr) (0 : Int32) (0 : Int32) (fc 1 6) (r_goFaults_a91 fr 11) 0
      refine ⟨?_, fun j hj => ?_, ?_, rfl, ?_, fun j hj => ?_⟩
      · rw [mo 3 (by decide) (by decide) (by decide), f1 10 (by decide), gw 6 (by decide) (by decide) (by decide)]
        exact l3
      · rw [f2 11 (by decide), f1 11 (by decide), gw (23 + j) (by omega) (by omega) (by omega)]
        exact hwh j hj
      · exact hbk.congr (by rw [f2 13 (by decide), f1 13 (by decide)]) (by rw [f2 14 (by decide), f1 14 (by decide)]) (fun w hw => gw w (by omega) (by omega) (by omega))
      · rw [gw 7 (by decide) (by decide) (by decide), e6]
      · rw [if_neg (fun q => Nat.not_lt_zero j q.1)]
    | succ k ih =>
      intro hk11
      have hs' : r_soBy_v (r_goFaults_f123 fr k) (Int32.ofNat k) = r_soBy_v (r_gp fr) (Int32.ofNat k) := r_soBy_c (fun w hw => by
        rw [gB k (by omega) w (by omega) (by omega) (by omega) (by omega) (by omega) (by omega) (by omega) (by omega), gw w (by omega) (by omega) (by omega)])
      exact c0_LK_step (by omega) (bits k (by omega)) (ih (by omega)) hs'
  obtain ⟨q6, q11, qb, qab, qy, qc⟩ := loop 11 (Nat.le_refl 11)
  refine ⟨qab, fun F hF => ?_⟩
  have hF2 : F = c0_latch_f5 f2m X (fc 1 6) 11 := hF
  have Gw : ∀ w : Nat, w ≠ 3 → r_goFaults_m fr 280 w = r_goFaults_f123 fr 11 280 w := fun w hw => by
    unfold r_goFaults_m
    rw [fl_row_self, upd_ne hw]
  have G3 : r_goFaults_m fr 280 3 = r_goFaults_j227_0 fr := by
    unfold r_goFaults_m
    rw [fl_row_self, upd_self]
  have g15 : r_goFaults_f123 fr 11 280 15 = r_goFaults_j18_0 fr ∧ r_goFaults_f123 fr 11 280 16 = r_goFaults_j53_0 fr ∧ r_goFaults_f123 fr 11 280 22 = fr 280 22 + (1 : Int32) := by
    have st : ∀ w : Nat, (w = 15 ∨ w = 16 ∨ w = 22) → ∀ k : Nat, k ≤ 11 → r_goFaults_f123 fr k 280 w = r_gp fr 280 w := by
      intro w hw k
      induction k with
      | zero => intro _; rfl
      | succ k ih =>
        intro hk
        exact (r_goFaults_b123_w (a0 := (r_goFaults_l123 fr k).2) (by omega) (r_goFaults_ib hb20 k) (by omega)).trans (ih (by omega))
    refine ⟨?_, ?_, ?_⟩
    · rw [st 15 (by omega) 11 (Nat.le_refl 11)]
      unfold r_gp
      rw [fl_row_self, upd_ne (by decide), upd_ne (by decide), upd_self]
    · rw [st 16 (by omega) 11 (Nat.le_refl 11)]
      unfold r_gp
      rw [fl_row_self, upd_ne (by decide), upd_self]
    · rw [st 22 (by omega) 11 (Nat.le_refl 11)]
      unfold r_gp
      rw [fl_row_self, upd_self]
  -- the words of the watch that the loop leaves
  have A10 : ∀ k : Nat, ∀ j : Nat, j ≠ 3 → c0_latch_f5 f2m X (fc 1 6) k 10 j = f2m 10 j := by
    intro k
    induction k with
    | zero => intro j _; rfl
    | succ k ih =>
      intro j hj
      show c0_latch_b5_m (c0_latch_f5 f2m X (fc 1 6) k) X (fc 1 6) (c0_latch_a5_0 f2m X (fc 1 6) k) k 10 j = _
      unfold c0_latch_b5_m
      split
      · exact ih j hj
      · split
        · rw [c0_badd_13 (by decide) (by decide), fl_row_self, upd_ne hj]
          exact ih j hj
        · rw [fl_row_ne (by decide)]
          exact ih j hj
  have A12 : c0_latch_f5 f2m X (fc 1 6) 11 12 = c0_faultsOfCells_m fc 12 := by
    rw [c0_latch_f5_fr (fun j hj => by decide) (fun j hj => by decide) (fun j hj => by decide) (fun j hj => by decide), f2 12 (by decide)]
  subst hF2
  have s9 : fc 4 9 = fr 280 43 := hs 9 (by omega)
  have s10 : fc 4 10 = fr 280 44 := hs 10 (by omega)
  have ac := c0_actual_eq e7 hk hw
  have od := c0_ordered_eq (fc := fc) (fr := fr) e7
  have lv := c0_live_c (f := fc) (f' := c0_faultsOfCells_m fc) (by rw [f1 _ (by decide)]) (f1 _ (by decide))
  have ordg := r_live_c (f := fr) (f' := fl_row fr 280 (upd (fr 280) 15 (r_goFaults_j18_0 fr))) (by rw [fl_row_self, upd_ne (by decide)]) (fun k hk => by rw [fl_row_self, upd_ne (by omega)])
  refine ⟨⟨?_, ?_, ?_, ?_⟩, fun j hj => ?_, fun j hj => ?_, ?_, ?_⟩
  · rw [Gw 6 (by decide)]; exact q6
  · rw [A10 11 4 (by decide), m4, f1 10 (by decide), l4, Gw 22 (by decide), g15.2.2]
  · rw [A10 11 5 (by decide), m5, Gw 15 (by decide), g15.1]
    unfold c0_leakBit_j2_0 c0_faultsOfPack_j59_0 r_goFaults_j18_0
    rw [f1 4 (by decide), f1 10 (by decide), s9, s10, l5, t2_les]
    by_cases q : (fr 280 43).toInt < (fr 280 44).toInt
    · rw [if_pos q, if_neg (by omega), if_pos q]
    · rw [if_neg q, if_pos c0, if_neg q]
  · rw [A10 11 6 (by decide), m6, Gw 16 (by decide), g15.2.1]
    unfold r_goFaults_j53_0
    rw [lv.1, lv.2.2, ac, od, ordg.1, ordg.2.2]
    by_cases d : (r_actual_v fr).toInt = (r_ordered_v fr).toInt
    · rw [if_pos d, if_pos d]
      omega
    · have a : (fr 280 16 + (1 : Int32)).toInt = (fr 280 16).toInt + 1 := by rw [at_add32] <;> omega
      rw [if_neg d, if_neg d, t2_les, t2_min_i]
      omega
  · rw [Gw (23 + j) (by omega)]
    exact q11 j hj
  · rw [Gw (311 + j) (by omega), A12, qc j hj]
    have gv : ∀ C : Nat, r_voltsOf_v (r_gp fr) (Int32.ofNat C) C = r_voltsOf_v fr (Int32.ofNat C) C := fun C => r_volts_c (gw _ (by decide) (by decide) (by decide)) (gw _ (by omega) (by omega) (by omega)) (gw _ (by omega) (by omega) (by omega)) (gw _ (by omega) (by omega) (by omega)) (gw _ (by omega) (by omega) (by omega))
    have g2 : (r_gp fr 280 2).toInt = n := by rw [gw 2 (by decide) (by decide) (by decide)]; exact hn2
    obtain ⟨z0, z1, z2, z3⟩ := c0_four (fc := fc) (fr := r_gp fr) hn1 g2 hn16 (fun C hC => by rw [gv]; exact (hc C hC).1) (fun C hC => by rw [gw _ (by omega) (by omega) (by omega)]; exact (hc C hC).2.1) (by rw [gw 5 (by decide) (by decide) (by decide)]; exact e9) (fun k hk => by rw [gw _ (by omega) (by omega) (by omega)]; exact hs k hk)
    obtain ⟨u0, u1, u2, u3⟩ := c0_fcm (fc := fc) (n := n) (by omega) z0 z1 z2 z3
    have bt := r_a91_bt (fr := fr) 11 (Nat.le_refl 11) j (by omega)
    rw [decide_eq_true (show j < 11 by omega), Bool.true_and, r_isSo_b (slow := slow) (by unfold r_gp; rw [fl_row_ne (by decide)]; exact hsl) j (by omega)] at bt
    rw [bt, gw (311 + j) (by omega) (by omega) (by omega)]
    have s2 : fc 4 2 = fr 280 36 := hs 2 (by omega)
    have m1 : (-1 : Int32).toInt = -1 := by decide +kernel
    rcases (show j = 0 ∨ j = 1 ∨ j = 2 ∨ j = 3 by omega) with h | h | h | h <;> subst h
    · rw [u0, hcu 0 (by decide)]
      show _ = if 0 < 11 ∧ _ then r_soBy_v (r_gp fr) (0 : Int32) else _
      by_cases q : (r_soBy_v (r_gp fr) (0 : Int32)).toInt = (-1 : Int32).toInt
      · rw [if_pos q]; simp [q, t2_cb, t2_pk]
      · rw [if_neg q]
        rw [m1] at q
        simp [q, t2_cb, t2_pk]
    · rw [u1, hcu 1 (by decide)]
      show _ = if 1 < 11 ∧ _ then r_soBy_v (r_gp fr) (1 : Int32) else _
      by_cases q : (r_soBy_v (r_gp fr) (1 : Int32)).toInt = (-1 : Int32).toInt
      · rw [if_pos q]; simp [q, t2_cb, t2_pk]
      · rw [if_neg q]
        rw [m1] at q
        simp [q, t2_cb, t2_pk]
    · rw [u2, hcu 2 (by decide), s2, e11, ← gw 36 (by decide) (by decide) (by decide), ← gw 8 (by decide) (by decide) (by decide)]
      show _ = if 2 < 11 ∧ _ then r_soBy_v (r_gp fr) (2 : Int32) else _
      by_cases q : (r_soBy_v (r_gp fr) (2 : Int32)).toInt = (-1 : Int32).toInt
      · rw [if_pos q]; simp [q, t2_cb, t2_pk]
      · rw [if_neg q]
        rw [m1] at q
        simp [q, t2_cb, t2_pk]
    · rw [u3, hcu 3 (by decide)]
      show _ = if 3 < 11 ∧ _ then r_soBy_v (r_gp fr) (3 : Int32) else _
      by_cases q : (r_soBy_v (r_gp fr) (3 : Int32)).toInt = (-1 : Int32).toInt
      · rw [if_pos q]; simp [q, t2_cb, t2_pk]
      · rw [if_neg q]
        rw [m1] at q
        simp [q, t2_cb, t2_pk]
  · exact qb.congr rfl rfl (fun w hw => Gw w (by omega))
  · rw [G3]
    unfold r_goFaults_j227_0
    rw [q6]
    by_cases q : (r_goFaults_f123 fr 11 280 6).toInt = 0
    · rw [if_pos q, if_pos q, gB 11 (Nat.le_refl 11) 3 (by decide) (by decide) (by decide) (by decide) (by decide) (by decide) (by decide) (by decide), e7]
    · rw [if_neg q, if_neg q]
end C0LAT

end

/-! 94.16.alt.lean.txt -/
section
/-! ===== turns: the reference's ===== -/
theorem t2_ab {p q : Int32} (hp : 0 ≤ p.toInt ∧ p.toInt ≤ 1000) (hq : 0 ≤ q.toInt ∧ q.toInt ≤ 1000) : (t2_abs_v (p - q)).toInt = (if q.toInt ≤ p.toInt then p.toInt - q.toInt else q.toInt - p.toInt) ∧ r_size_v (q - p) = t2_abs_v (p - q) := by
  have e : (p - q).toInt = p.toInt - q.toInt := at_sub32 (by omega) (by omega)
  have e' : (q - p).toInt = q.toInt - p.toInt := at_sub32 (by omega) (by omega)
  have e2 : (-(p - q)).toInt = -(p.toInt - q.toInt) := by
    rw [Int32.toInt_neg, e]
    exact Int.bmod_eq_of_le (by omega) (by omega)
  have e3 : (-(q - p)).toInt = -(q.toInt - p.toInt) := by
    rw [Int32.toInt_neg, e']
    exact Int.bmod_eq_of_le (by omega) (by omega)
  have a : (t2_abs_v (p - q)).toInt = (if q.toInt ≤ p.toInt then p.toInt - q.toInt else q.toInt - p.toInt) := by
    unfold t2_abs_v
    split <;> split <;> omega
  refine ⟨a, Int32.toInt.inj ?_⟩
  rw [a]
  unfold r_size_v
  split <;> split <;> omega
def r_tI (f : t2_F) (C i : Nat) : Int := (f 280 (444 + 61 * C + (17 + i))).toInt
/-- the turns of a cell go to and fro -/
def r_alt (f : t2_F) (C : Nat) : Prop := (1 ≤ (f 280 (444 + 61 * C + 10)).toInt ∧ (f 280 (444 + 61 * C + 10)).toInt ≤ 32) ∧ r_tv f C ∧ (∀ i : Nat, (i : Int) + 1 < (f 280 (444 + 61 * C + 10)).toInt → r_tI f C i ≠ r_tI f C (i + 1)) ∧ ∀ i : Nat, (i : Int) + 2 < (f 280 (444 + 61 * C + 10)).toInt → (r_tI f C i < r_tI f C (i + 1) ↔ ¬ r_tI f C (i + 1) < r_tI f C (i + 2))
theorem r_alt.congr {f f' : t2_F} {C : Nat} (h : r_alt f C) (e : ∀ w : Nat, (w = 10 ∨ (17 ≤ w ∧ w < 49)) → f' 280 (444 + 61 * C + w) = f 280 (444 + 61 * C + w)) : r_alt f' C := by
  have et : ∀ i : Nat, i < 32 → r_tI f' C i = r_tI f C i := fun i hi => by unfold r_tI; rw [e (17 + i) (by omega)]
  obtain ⟨h1, h2, h3, h4⟩ := h
  unfold r_alt
  rw [e 10 (by omega)]
  refine ⟨h1, fun k hk => by rw [e (17 + k) (by omega)]; exact h2 k hk, fun i hi => ?_, fun i hi => ?_⟩
  · rw [et i (by omega), et (i + 1) (by omega)]
    exact h3 i hi
  · rw [et i (by omega), et (i + 1) (by omega), et (i + 2) (by omega)]
    exact h4 i hi
/-- a round of the reference's count, by words -/
theorem r_round_w {f g f' : t2_F} {c : Int32} {C n q : Nat} {v : Int32} (hn : (f 280 (444 + 61 * C + 10)).toInt = (n : Int)) (h4 : 4 ≤ n) (h32 : n ≤ 32) (hq : q < 12) (hg : g = fl_row f 280 (upd (f 280) (444 + 61 * C + (49 + q)) v)) (hf : f' = r_dropTurnN_m (r_dropTurnN_m g c C (n - 3)) c C (n - 3)) :
    f' 280 (444 + 61 * C + 10) = f 280 (444 + 61 * C + 10) - (1 : Int32) - (1 : Int32) ∧ (∀ j : Nat, j < n - 2 → f' 280 (444 + 61 * C + (17 + j)) = f 280 (444 + 61 * C + (17 + (if j = n - 3 then n - 1 else j)))) ∧ (∀ w : Nat, (w < 444 + 61 * C + 10 ∨ (444 + 61 * C + 10 < w ∧ w < 444 + 61 * C + 17) ∨ 444 + 61 * C + 49 ≤ w) → f' 280 w = g 280 w) := by
  have c1 : (1 : Int32).toInt = 1 := by decide +kernel
  have g10 : g 280 (444 + 61 * C + 10) = f 280 (444 + 61 * C + 10) := by rw [hg, fl_row_self, upd_ne (by omega)]
  have gt : ∀ j : Nat, j < 32 → g 280 (444 + 61 * C + (17 + j)) = f 280 (444 + 61 * C + (17 + j)) := fun j hj => by rw [hg, fl_row_self, upd_ne (by omega)]
  have t1 := r_dropTurnN_t (f := g) (c := c) (C := C) (X := n - 3)
  have i1 : (r_dropTurnN_m g c C (n - 3) 280 (444 + 61 * C + 10)).toInt = ((n - 1 : Nat) : Int) := by rw [t1, g10, at_sub32] <;> omega
  have t2 := r_dropTurnN_t (f := r_dropTurnN_m g c C (n - 3)) (c := c) (C := C) (X := n - 3)
  have a1 := r_dropTurnN_at (f := g) (c := c) (C := C) (X := n - 3) (n := n) (by rw [g10]; exact hn) (by omega) h32 (by omega)
  have a2 := r_dropTurnN_at (f := r_dropTurnN_m g c C (n - 3)) (c := c) (C := C) (X := n - 3) (n := n - 1) i1 (by omega) (by omega) (by omega)
  refine ⟨?_, fun j hj => ?_, fun w hw => ?_⟩
  · rw [hf, t2, t1, g10]
  · rw [hf, a2 j (by omega), if_neg (by omega)]
    by_cases e : j = n - 3
    · rw [if_pos (by omega), a1 (j + 1) (by omega), if_neg (by omega), if_pos (by omega), gt (j + 1 + 1) (by omega), if_pos e, show j + 1 + 1 = n - 1 by omega]
    · rw [if_neg (by omega), a1 j (by omega), if_neg (by omega), if_neg (by omega), gt j (by omega), if_neg e]
  · rw [hf, r_dropTurnN_w (by omega) (by omega) (by omega), r_dropTurnN_w (by rw [g10]; omega) (by omega) (by omega)]
theorem r_round_alt {f f' : t2_F} {C n : Nat} (h : r_alt f C) (hn : (f 280 (444 + 61 * C + 10)).toInt = (n : Int)) (h4 : 4 ≤ n) (h10 : f' 280 (444 + 61 * C + 10) = f 280 (444 + 61 * C + 10) - (1 : Int32) - (1 : Int32)) (ht : ∀ j : Nat, j < n - 2 → f' 280 (444 + 61 * C + (17 + j)) = f 280 (444 + 61 * C + (17 + (if j = n - 3 then n - 1 else j)))) (hv : r_tv f' C)
    (m1 : ¬ (t2_abs_v (f 280 (444 + 61 * C + (17 + (n - 3))) - f 280 (444 + 61 * C + (17 + (n - 4))))).toInt < (t2_abs_v (f 280 (444 + 61 * C + (17 + (n - 2))) - f 280 (444 + 61 * C + (17 + (n - 3))))).toInt) (m2 : ¬ (t2_abs_v (f 280 (444 + 61 * C + (17 + (n - 1))) - f 280 (444 + 61 * C + (17 + (n - 2))))).toInt < (t2_abs_v (f 280 (444 + 61 * C + (17 + (n - 2))) - f 280 (444 + 61 * C + (17 + (n - 3))))).toInt) : r_alt f' C := by
  have c1 : (1 : Int32).toInt = 1 := by decide +kernel
  obtain ⟨h1, h2, h3, h5⟩ := h
  have e10 : (f' 280 (444 + 61 * C + 10)).toInt = (n : Int) - 2 := by
    rw [h10, at_sub32] <;> rw [at_sub32] <;> omega
  have va := h2 (n - 4) (by omega)
  have vb := h2 (n - 3) (by omega)
  have vc := h2 (n - 2) (by omega)
  have vd := h2 (n - 1) (by omega)
  rw [(t2_ab vb va).1, (t2_ab vc vb).1] at m1
  rw [(t2_ab vd vc).1, (t2_ab vc vb).1] at m2
  have n1 := h3 (n - 4) (by omega)
  have n2 := h3 (n - 3) (by omega)
  have n3 := h3 (n - 2) (by omega)
  have o1 := h5 (n - 4) (by omega)
  have o2 := h5 (n - 3) (by omega)
  rw [show n - 4 + 1 = n - 3 by omega] at n1 o1
  rw [show n - 4 + 2 = n - 2 by omega] at o1
  rw [show n - 3 + 1 = n - 2 by omega] at n2 o2
  rw [show n - 3 + 2 = n - 1 by omega] at o2
  rw [show n - 2 + 1 = n - 1 by omega] at n3
  unfold r_tI at n1 n2 n3 o1 o2
  have dir : ((f 280 (444 + 61 * C + (17 + (n - 4)))).toInt < (f 280 (444 + 61 * C + (17 + (n - 1)))).toInt ↔ (f 280 (444 + 61 * C + (17 + (n - 4)))).toInt < (f 280 (444 + 61 * C + (17 + (n - 3)))).toInt) ∧ (f 280 (444 + 61 * C + (17 + (n - 4)))).toInt ≠ (f 280 (444 + 61 * C + (17 + (n - 1)))).toInt := by
    split at m1 <;> split at m1 <;> split at m2 <;> refine ⟨⟨fun q => ?_, fun q => ?_⟩, fun q => ?_⟩ <;> omega
  have et : ∀ j : Nat, j < n - 3 → r_tI f' C j = r_tI f C j := fun j hj => by unfold r_tI; rw [ht j (by omega), if_neg (by omega)]
  have el : r_tI f' C (n - 3) = r_tI f C (n - 1) := by unfold r_tI; rw [ht (n - 3) (by omega), if_pos rfl]
  refine ⟨by omega, hv, fun i hi => ?_, fun i hi => ?_⟩
  · by_cases e : i + 1 = n - 3
    · rw [e, el, et i (by omega), show i = n - 4 by omega]
      exact dir.2
    · rw [et i (by omega), et (i + 1) (by omega)]
      exact h3 i (by omega)
  · by_cases e : i + 2 = n - 3
    · rw [e, el, et i (by omega), et (i + 1) (by omega), show i + 1 = n - 4 by omega]
      have := h5 i (by omega)
      rw [show i + 1 = n - 4 by omega, show i + 2 = n - 3 by omega] at this
      rw [this]
      unfold r_tI
      constructor
      · intro q r
        exact q (dir.1.mp r)
      · intro q r
        exact q (dir.1.mpr r)
    · rw [et i (by omega), et (i + 1) (by omega), et (i + 2) (by omega)]
      exact h5 i (by omega)

end
