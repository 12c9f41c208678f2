theorem t2_win10 {x : Int32} (h : ¬ (t2_within_v x (0 : Int32) (10 : Int32)).toInt = 0) : 0 ≤ x.toInt ∧ x.toInt ≤ 10 := by
  have e0 : (0 : Int32).toInt = 0 := rfl
  have e10 : (10 : Int32).toInt = 10 := by decide +kernel
  unfold t2_within_v at h
  repeat' split at h
  all_goals first | omega | exact absurd rfl h
noncomputable def c0_couldReset_v (f : t2_F) (x : Int32) : Int32 := if (t2_within_v x (0 : Int32) (10 : Int32)).toInt = 0 then (0 : Int32) else (if ((f 10 3) &&& ((1 : Int32) <<< (x &&& 31))).toInt = 0 then (0 : Int32) else (if (f 1 7).toInt = 0 then (if ((f 1 6) - (f 11 x.toInt.toNat)).toInt < (f 4 21).toInt then (0 : Int32) else (1 : Int32)) else (0 : Int32)))
theorem c0_couldReset_q {L : Nat} {xs : Nat → Int32} {f : t2_F} {l : t2_L} {Q : Option fl_V → fl_M → Prop} {x : Int32}  (k : Q (some (.inl (c0_couldReset_v f x))) (f, l)) : fl_Tq (pw_P L xs) 37 0 (fl_args (am_mxl (pw_P L xs) 37) [.inr (.inr (.inl (1, 1))), .inl x]) [] (f, l) Q := by
  refine fl_Tq.stp (pc' := 1) (lv' := [some (.inr (.inr (.inl (1, 1)))), some (.inl x)]) (st' := [.inl x]) (m' := (f, l)) rfl rfl (fl_bo rfl) rfl ?_
  refine fl_Tq.cI (c := (0 : Int32)) rfl (by decide +kernel) (fl_bo rfl) ?_
  refine fl_Tq.cB (c := (10 : Int32)) rfl (by decide +kernel) (fl_bo rfl) ?_
  refine fl_Tq.cal rfl rfl (fl_bo rfl) rfl ?_
  refine t2_within_q  ?_
  show fl_Tq _ 37 7 [some (.inr (.inr (.inl (1, 1)))), some (.inl x)] [.inl (t2_within_v x (0 : Int32) (10 : Int32))] (f, l) _
  by_cases h1 : (t2_within_v x (0 : Int32) (10 : Int32)).toInt = 0
  · refine fl_Tq.zt rfl (fl_bo rfl) (c1_eq_t h1) rfl ?_
    refine fl_Tq.cI (c := (0 : Int32)) rfl (by decide +kernel) (fl_bo rfl) ?_
    refine fl_Tq.ret rfl rfl rfl ?_
    unfold c0_couldReset_v at k
    simp only [if_pos h1] at k
    exact k
  · refine fl_Tq.zf rfl (fl_bo rfl) (c1_eq_f h1) rfl ?_
    refine fl_Tq.stp (pc' := 11) (lv' := [some (.inr (.inr (.inl (1, 1)))), some (.inl x)]) (st' := [.inr (.inr (.inl (1, 1)))]) (m' := (f, l)) rfl rfl (fl_bo rfl) rfl ?_
    refine fl_Tq.stp (pc' := 14) (lv' := [some (.inr (.inr (.inl (1, 1)))), some (.inl x)]) (st' := [.inr (.inr (.inl (10, 10)))]) (m' := (f, l)) rfl rfl (fl_bo rfl) rfl ?_
    refine fl_Tq.gfV (k := 3) (v := f 10 3) rfl (fl_bo rfl) rfl rfl ?_
    refine fl_Tq.cI (c := (1 : Int32)) rfl (by decide +kernel) (fl_bo rfl) ?_
    refine fl_Tq.stp (pc' := 19) (lv' := [some (.inr (.inr (.inl (1, 1)))), some (.inl x)]) (st' := [.inl x, .inl (1 : Int32), .inl (f 10 3)]) (m' := (f, l)) rfl rfl (fl_bo rfl) rfl ?_
    refine fl_Tq.stp (pc' := 20) (lv' := [some (.inr (.inr (.inl (1, 1)))), some (.inl x)]) (st' := [.inl ((1 : Int32) <<< (x &&& 31)), .inl (f 10 3)]) (m' := (f, l)) rfl rfl (fl_bo rfl) rfl ?_
    refine fl_Tq.stp (pc' := 21) (lv' := [some (.inr (.inr (.inl (1, 1)))), some (.inl x)]) (st' := [.inl ((f 10 3) &&& ((1 : Int32) <<< (x &&& 31)))]) (m' := (f, l)) rfl rfl (fl_bo rfl) rfl ?_
    by_cases h2 : ((f 10 3) &&& ((1 : Int32) <<< (x &&& 31))).toInt = 0
    · refine fl_Tq.zf rfl (fl_bo rfl) (c1_ne_f h2) rfl ?_
      refine fl_Tq.cI (c := (0 : Int32)) rfl (by decide +kernel) (fl_bo rfl) ?_
      refine fl_Tq.ret rfl rfl rfl ?_
      unfold c0_couldReset_v at k
      simp only [if_neg h1, if_pos h2] at k
      exact k
    · refine fl_Tq.zt rfl (fl_bo rfl) (c1_ne_t h2) rfl ?_
      refine fl_Tq.stp (pc' := 27) (lv' := [some (.inr (.inr (.inl (1, 1)))), some (.inl x)]) (st' := [.inr (.inr (.inl (1, 1)))]) (m' := (f, l)) rfl rfl (fl_bo rfl) rfl ?_
      refine fl_Tq.gfV (k := 7) (v := f 1 7) rfl (fl_bo rfl) rfl rfl ?_
      by_cases h3 : (f 1 7).toInt = 0
      · refine fl_Tq.zf rfl (fl_bo rfl) (c1_ne_f h3) rfl ?_
        refine fl_Tq.stp (pc' := 34) (lv' := [some (.inr (.inr (.inl (1, 1)))), some (.inl x)]) (st' := [.inr (.inr (.inl (1, 1)))]) (m' := (f, l)) rfl rfl (fl_bo rfl) rfl ?_
        refine fl_Tq.gfV (k := 6) (v := f 1 6) rfl (fl_bo rfl) rfl rfl ?_
        refine fl_Tq.stp (pc' := 38) (lv' := [some (.inr (.inr (.inl (1, 1)))), some (.inl x)]) (st' := [.inr (.inr (.inl (1, 1))), .inl (f 1 6)]) (m' := (f, l)) rfl rfl (fl_bo rfl) rfl ?_
        refine fl_Tq.stp (pc' := 41) (lv' := [some (.inr (.inr (.inl (1, 1)))), some (.inl x)]) (st' := [.inr (.inr (.inl (10, 10))), .inl (f 1 6)]) (m' := (f, l)) rfl rfl (fl_bo rfl) rfl ?_
        refine fl_Tq.stp (pc' := 44) (lv' := [some (.inr (.inr (.inl (1, 1)))), some (.inl x)]) (st' := [.inr (.inr (.inl (11, 11))), .inl (f 1 6)]) (m' := (f, l)) rfl rfl (fl_bo rfl) rfl ?_
        refine fl_Tq.stp (pc' := 45) (lv' := [some (.inr (.inr (.inl (1, 1)))), some (.inl x)]) (st' := [.inl x, .inr (.inr (.inl (11, 11))), .inl (f 1 6)]) (m' := (f, l)) rfl rfl (fl_bo rfl) rfl ?_
        refine fl_Tq.ldV (p := 11) (τ := 11) (n := 11) (z := (0, 0, 0)) (k := x.toInt.toNat) (v := f 11 x.toInt.toNat) rfl (fl_bo rfl) rfl (t2_nn (t2_win10 h1).1) (by have := t2_win10 h1; omega) rfl ?_
        refine fl_Tq.stp (pc' := 47) (lv' := [some (.inr (.inr (.inl (1, 1)))), some (.inl x)]) (st' := [.inl ((f 1 6) - (f 11 x.toInt.toNat))]) (m' := (f, l)) rfl rfl (fl_bo rfl) rfl ?_
        refine fl_Tq.stp (pc' := 48) (lv' := [some (.inr (.inr (.inl (1, 1)))), some (.inl x)]) (st' := [.inr (.inr (.inl (1, 1))), .inl ((f 1 6) - (f 11 x.toInt.toNat))]) (m' := (f, l)) rfl rfl (fl_bo rfl) rfl ?_
        refine fl_Tq.stp (pc' := 51) (lv' := [some (.inr (.inr (.inl (1, 1)))), some (.inl x)]) (st' := [.inr (.inr (.inl (3, 3))), .inl ((f 1 6) - (f 11 x.toInt.toNat))]) (m' := (f, l)) rfl rfl (fl_bo rfl) rfl ?_
        refine fl_Tq.stp (pc' := 54) (lv' := [some (.inr (.inr (.inl (1, 1)))), some (.inl x)]) (st' := [.inr (.inr (.inl (4, 4))), .inl ((f 1 6) - (f 11 x.toInt.toNat))]) (m' := (f, l)) rfl rfl (fl_bo rfl) rfl ?_
        refine fl_Tq.cB (c := (21 : Int32)) rfl (by decide +kernel) (fl_bo rfl) ?_
        refine fl_Tq.ldV (p := 4) (τ := 4) (n := 30) (z := (0, 0, 0)) (k := 21) (v := f 4 21) rfl (fl_bo rfl) rfl (by decide +kernel) (by decide) rfl ?_
        by_cases h4 : ((f 1 6) - (f 11 x.toInt.toNat)).toInt < (f 4 21).toInt
        · refine fl_Tq.jt rfl (fl_bo rfl) (c2_lt_t h4) rfl ?_
          refine fl_Tq.cI (c := (0 : Int32)) rfl (by decide +kernel) (fl_bo rfl) ?_
          refine fl_Tq.ret rfl rfl rfl ?_
          unfold c0_couldReset_v at k
          simp only [if_neg h1, if_neg h2, if_pos h3, if_pos h4] at k
          exact k
        · refine fl_Tq.jf rfl (fl_bo rfl) (c2_lt_f h4) rfl ?_
          refine fl_Tq.cI (c := (1 : Int32)) rfl (by decide +kernel) (fl_bo rfl) ?_
          refine fl_Tq.stp (pc' := 65) (lv' := [some (.inr (.inr (.inl (1, 1)))), some (.inl x)]) (st' := [.inl (1 : Int32)]) (m' := (f, l)) rfl rfl (fl_bo rfl) rfl ?_
          refine fl_Tq.ret rfl rfl rfl ?_
          unfold c0_couldReset_v at k
          simp only [if_neg h1, if_neg h2, if_pos h3, if_neg h4] at k
          exact k
      · refine fl_Tq.zt rfl (fl_bo rfl) (c1_ne_t h3) rfl ?_
        refine fl_Tq.cI (c := (0 : Int32)) rfl (by decide +kernel) (fl_bo rfl) ?_
        refine fl_Tq.ret rfl rfl rfl ?_
        unfold c0_couldReset_v at k
        simp only [if_neg h1, if_neg h2, if_neg h3] at k
        exact k
noncomputable def c0_hasEnded_e2 (f : t2_F) (x : Int32) : Nat → Option Int32
  | 0 => none
  | k2 + 1 => match c0_hasEnded_e2 f x k2 with
    | some r => some r
    | none => if (f (18 + 4 * k2) 2).toInt = (if x.toInt = 0 then (f (18 + 4 * k2) 0) * (3600 : Int32) else (0 : Int32)).toInt then some (1 : Int32) else none
noncomputable def c0_hasEnded_v (f : t2_F) (x : Int32) : Int32 := match c0_hasEnded_e2 f x ((f 1 5).toInt.toNat) with | some r => r | none => (0 : Int32)
theorem c0_hasEnded_q {L : Nat} {xs : Nat → Int32} {f : t2_F} {l : t2_L} {Q : Option fl_V → fl_M → Prop} {x : Int32} (hc : 0 ≤ (f 1 5).toInt ∧ (f 1 5).toInt ≤ 16) (k : Q (some (.inl (c0_hasEnded_v f x))) (f, l)) : fl_Tq (pw_P L xs) 49 0 (fl_args (am_mxl (pw_P L xs) 49) [.inr (.inr (.inl (1, 1))), .inl x]) [] (f, l) Q := by
  refine fl_Tq.cI (c := (0 : Int32)) rfl (by decide +kernel) (fl_bo rfl) ?_
  refine fl_Tq.stp (pc' := 2) (lv' := [some (.inr (.inr (.inl (1, 1)))), some (.inl x), some (.inl (0 : Int32))]) (st' := []) (m' := (f, l)) rfl rfl (fl_bo rfl) rfl ?_
  have hm2 : ∀ (k : Nat) (r : Int32), c0_hasEnded_e2 f x k = some r → c0_hasEnded_e2 f x (k + 1) = some r := fun k r e => by
    unfold c0_hasEnded_e2
    rw [e]
  have hs2 : ∀ k2 : Nat, k2 < (f 1 5).toInt.toNat → c0_hasEnded_e2 f x k2 = none → (c0_hasEnded_e2 f x (k2 + 1) = none → fl_Tq (pw_P L xs) 49 2 [some (.inr (.inr (.inl (1, 1)))), some (.inl x), some (.inl (Int32.ofNat (k2 + 1)))] [] (f, l) Q) → fl_Tq (pw_P L xs) 49 2 [some (.inr (.inr (.inl (1, 1)))), some (.inl x), some (.inl (Int32.ofNat k2))] [] (f, l) Q := by
    intro k2 hk2 he hS
    refine fl_Tq.stp (pc' := 3) (lv' := [some (.inr (.inr (.inl (1, 1)))), some (.inl x), some (.inl (Int32.ofNat k2))]) (st' := [.inl (Int32.ofNat k2)]) (m' := (f, l)) rfl rfl (fl_bo rfl) rfl ?_
    refine fl_Tq.stp (pc' := 4) (lv' := [some (.inr (.inr (.inl (1, 1)))), some (.inl x), some (.inl (Int32.ofNat k2))]) (st' := [.inr (.inr (.inl (1, 1))), .inl (Int32.ofNat k2)]) (m' := (f, l)) rfl rfl (fl_bo rfl) rfl ?_
    refine fl_Tq.gfV (k := 5) (v := f 1 5) rfl (fl_bo rfl) rfl rfl ?_
    refine fl_Tq.jf rfl (fl_bo rfl) (c2_ge_f (t2_lk hk2 (t2_nn hc.1))) rfl ?_
    refine fl_Tq.stp (pc' := 11) (lv' := [some (.inr (.inr (.inl (1, 1)))), some (.inl x), some (.inl (Int32.ofNat k2))]) (st' := [.inr (.inr (.inl (1, 1)))]) (m' := (f, l)) rfl rfl (fl_bo rfl) rfl ?_
    refine fl_Tq.stp (pc' := 14) (lv' := [some (.inr (.inr (.inl (1, 1)))), some (.inl x), some (.inl (Int32.ofNat k2))]) (st' := [.inr (.inr (.inl (2, 2)))]) (m' := (f, l)) rfl rfl (fl_bo rfl) rfl ?_
    refine fl_Tq.stp (pc' := 15) (lv' := [some (.inr (.inr (.inl (1, 1)))), some (.inl x), some (.inl (Int32.ofNat k2))]) (st' := [.inl (Int32.ofNat k2), .inr (.inr (.inl (2, 2)))]) (m' := (f, l)) rfl rfl (fl_bo rfl) rfl ?_
    refine fl_Tq.qld (p := 2) (τ := 2) (n := 16) (t := 18) (b := 16) (d := 3) (k := k2) rfl (fl_bo rfl) rfl (at_ofN (by omega)) (by omega) ?_
    show fl_Tq _ 49 16 [some (.inr (.inr (.inl (1, 1)))), some (.inl x), some (.inl (Int32.ofNat k2))] [.inr (.inr (.inl (18, 18 + 4 * k2)))] (f, l) _
    refine fl_Tq.gfV (k := 2) (v := f (18 + 4 * k2) 2) rfl (fl_oks_ok ⟨(t2_kc0 (by omega)), True.intro⟩) rfl rfl ?_
    refine fl_Tq.stp (pc' := 20) (lv' := [some (.inr (.inr (.inl (1, 1)))), some (.inl x), some (.inl (Int32.ofNat k2))]) (st' := [.inl x, .inl (f (18 + 4 * k2) 2)]) (m' := (f, l)) rfl rfl (fl_bo rfl) rfl ?_
    have hj113 : fl_Tq (pw_P L xs) 49 36 [some (.inr (.inr (.inl (1, 1)))), some (.inl x), some (.inl (Int32.ofNat k2))] [.inl (if x.toInt = 0 then (f (18 + 4 * k2) 0) * (3600 : Int32) else (0 : Int32)), .inl (f (18 + 4 * k2) 2)] (f, l) Q → fl_Tq (pw_P L xs) 49 20 [some (.inr (.inr (.inl (1, 1)))), some (.inl x), some (.inl (Int32.ofNat k2))] [.inl x, .inl (f (18 + 4 * k2) 2)] (f, l) Q := by
      intro hJ
      by_cases h1 : x.toInt = 0
      · refine fl_Tq.zf rfl (fl_bo rfl) (c1_ne_f h1) rfl ?_
        refine fl_Tq.stp (pc' := 24) (lv' := [some (.inr (.inr (.inl (1, 1)))), some (.inl x), some (.inl (Int32.ofNat k2))]) (st' := [.inr (.inr (.inl (1, 1))), .inl (f (18 + 4 * k2) 2)]) (m' := (f, l)) rfl rfl (fl_bo rfl) rfl ?_
        refine fl_Tq.stp (pc' := 27) (lv' := [some (.inr (.inr (.inl (1, 1)))), some (.inl x), some (.inl (Int32.ofNat k2))]) (st' := [.inr (.inr (.inl (2, 2))), .inl (f (18 + 4 * k2) 2)]) (m' := (f, l)) rfl rfl (fl_bo rfl) rfl ?_
        refine fl_Tq.stp (pc' := 28) (lv' := [some (.inr (.inr (.inl (1, 1)))), some (.inl x), some (.inl (Int32.ofNat k2))]) (st' := [.inl (Int32.ofNat k2), .inr (.inr (.inl (2, 2))), .inl (f (18 + 4 * k2) 2)]) (m' := (f, l)) rfl rfl (fl_bo rfl) rfl ?_
        refine fl_Tq.qld (p := 2) (τ := 2) (n := 16) (t := 18) (b := 16) (d := 3) (k := k2) rfl (fl_bo rfl) rfl (at_ofN (by omega)) (by omega) ?_
        show fl_Tq _ 49 29 [some (.inr (.inr (.inl (1, 1)))), some (.inl x), some (.inl (Int32.ofNat k2))] [.inr (.inr (.inl (18, 18 + 4 * k2))), .inl (f (18 + 4 * k2) 2)] (f, l) _
        refine fl_Tq.cal rfl rfl (fl_oks_ok ⟨(t2_kc0 (by omega)), True.intro, True.intro⟩) rfl ?_
        refine fl_Tq.stp (pc' := 1) (lv' := [some (.inr (.inr (.inl (18, 18 + 4 * k2))))]) (st' := [.inr (.inr (.inl (18, 18 + 4 * k2)))]) (m' := (f, l)) rfl rfl (fl_bo rfl) rfl ?_
        refine fl_Tq.gfV (k := 0) (v := f (18 + 4 * k2) 0) rfl (fl_oks_ok ⟨(t2_kc0 (by omega)), True.intro⟩) rfl rfl ?_
        refine fl_Tq.cS (c := (3600 : Int32)) rfl (by decide +kernel) (fl_bo rfl) ?_
        refine fl_Tq.stp (pc' := 8) (lv' := [some (.inr (.inr (.inl (18, 18 + 4 * k2))))]) (st' := [.inl ((f (18 + 4 * k2) 0) * (3600 : Int32))]) (m' := (f, l)) rfl rfl (fl_bo rfl) rfl ?_
        refine fl_Tq.ret rfl rfl rfl ?_
        show fl_Tq _ 49 32 [some (.inr (.inr (.inl (1, 1)))), some (.inl x), some (.inl (Int32.ofNat k2))] [.inl ((f (18 + 4 * k2) 0) * (3600 : Int32)), .inl (f (18 + 4 * k2) 2)] (f, l) _
        refine fl_Tq.stp (pc' := 36) (lv' := [some (.inr (.inr (.inl (1, 1)))), some (.inl x), some (.inl (Int32.ofNat k2))]) (st' := [.inl ((f (18 + 4 * k2) 0) * (3600 : Int32)), .inl (f (18 + 4 * k2) 2)]) (m' := (f, l)) rfl rfl (fl_bo rfl) rfl ?_
        have e0 : (if x.toInt = 0 then (f (18 + 4 * k2) 0) * (3600 : Int32) else (0 : Int32)) = (f (18 + 4 * k2) 0) * (3600 : Int32) := by simp only [if_pos h1]
        rw [e0] at hJ
        exact hJ
      · refine fl_Tq.zt rfl (fl_bo rfl) (c1_ne_t h1) rfl ?_
        refine fl_Tq.cI (c := (0 : Int32)) rfl (by decide +kernel) (fl_bo rfl) ?_
        have e0 : (if x.toInt = 0 then (f (18 + 4 * k2) 0) * (3600 : Int32) else (0 : Int32)) = (0 : Int32) := by simp only [if_neg h1]
        rw [e0] at hJ
        exact hJ
    refine hj113 ?_
    show fl_Tq _ 49 36 [some (.inr (.inr (.inl (1, 1)))), some (.inl x), some (.inl (Int32.ofNat k2))] [.inl (if x.toInt = 0 then (f (18 + 4 * k2) 0) * (3600 : Int32) else (0 : Int32)), .inl (f (18 + 4 * k2) 2)] (f, l) _
    by_cases h2 : (f (18 + 4 * k2) 2).toInt = (if x.toInt = 0 then (f (18 + 4 * k2) 0) * (3600 : Int32) else (0 : Int32)).toInt
    · refine fl_Tq.jf rfl (fl_bo rfl) (c2_ne_f h2) rfl ?_
      refine fl_Tq.cI (c := (1 : Int32)) rfl (by decide +kernel) (fl_bo rfl) ?_
      have ee : c0_hasEnded_e2 f x (k2 + 1) = some (1 : Int32) := by
        unfold c0_hasEnded_e2
        rw [he]
        simp only [if_pos h2]
      have en : c0_hasEnded_e2 f x ((f 1 5).toInt.toNat) = some (1 : Int32) := t2_Em hm2 ee (by omega)
      refine fl_Tq.ret rfl rfl rfl ?_
      unfold c0_hasEnded_v at k
      simp only [en] at k
      exact k
    · refine fl_Tq.jt rfl (fl_bo rfl) (c2_ne_t h2) rfl ?_
      refine fl_Tq.stp (pc' := 44) (lv' := [some (.inr (.inr (.inl (1, 1)))), some (.inl x), some (.inl ((Int32.ofNat k2) + (1 : Int32)))]) (st' := []) (m' := (f, l)) rfl rfl (fl_bo rfl) rfl ?_
      refine fl_Tq.stp (pc' := 2) (lv' := [some (.inr (.inr (.inl (1, 1)))), some (.inl x), some (.inl ((Int32.ofNat k2) + (1 : Int32)))]) (st' := []) (m' := (f, l)) rfl rfl (fl_bo rfl) rfl ?_
      have ee : c0_hasEnded_e2 f x (k2 + 1) = none := by
        unfold c0_hasEnded_e2
        rw [he]
        simp only [if_neg h2]
      have hS := hS ee
      rw [← t2_k1] at hS
      exact hS
  refine t2_forE (E := c0_hasEnded_e2 f x) (S := fun k2 => fl_Tq (pw_P L xs) 49 2 [some (.inr (.inr (.inl (1, 1)))), some (.inl x), some (.inl (Int32.ofNat k2))] [] (f, l) Q) hs2 rfl (fun en2 => ?_)
  show fl_Tq (pw_P L xs) 49 2 [some (.inr (.inr (.inl (1, 1)))), some (.inl x), some (.inl (Int32.ofNat ((f 1 5).toInt.toNat)))] [] (f, l) _
  refine fl_Tq.stp (pc' := 3) (lv' := [some (.inr (.inr (.inl (1, 1)))), some (.inl x), some (.inl (Int32.ofNat ((f 1 5).toInt.toNat)))]) (st' := [.inl (Int32.ofNat ((f 1 5).toInt.toNat))]) (m' := (f, l)) rfl rfl (fl_bo rfl) rfl ?_
  refine fl_Tq.stp (pc' := 4) (lv' := [some (.inr (.inr (.inl (1, 1)))), some (.inl x), some (.inl (Int32.ofNat ((f 1 5).toInt.toNat)))]) (st' := [.inr (.inr (.inl (1, 1))), .inl (Int32.ofNat ((f 1 5).toInt.toNat))]) (m' := (f, l)) rfl rfl (fl_bo rfl) rfl ?_
  refine fl_Tq.gfV (k := 5) (v := f 1 5) rfl (fl_bo rfl) rfl rfl ?_
  refine fl_Tq.jt rfl (fl_bo rfl) (c2_ge_t (t2_ln (t2_nn hc.1))) rfl ?_
  refine fl_Tq.cI (c := (0 : Int32)) rfl (by decide +kernel) (fl_bo rfl) ?_
  refine fl_Tq.ret rfl rfl rfl ?_
  unfold c0_hasEnded_v at k
  simp only [en2] at k
  exact k
noncomputable def c0_placeOf_a15 (f : t2_F) (x : Int32) : Nat → Int32
  | 0 => (0 : Int32)
  | k15 + 1 => (c0_placeOf_a15 f x k15) + (if (if (f (18 + 4 * k15) 3).toInt = (f (18 + 4 * x.toInt.toNat) 3).toInt then (if (Int32.ofNat k15).toInt < x.toInt then (1 : Int32) else (0 : Int32)) else (0 : Int32)).toInt = 0 then (if (f (18 + 4 * x.toInt.toNat) 3).toInt < (f (18 + 4 * k15) 3).toInt then (1 : Int32) else (0 : Int32)) else (1 : Int32))
noncomputable def c0_placeOf_v (f : t2_F) (x : Int32) : Int32 := c0_placeOf_a15 f x ((f 1 5).toInt.toNat)
theorem c0_placeOf_q {L : Nat} {xs : Nat → Int32} {f : t2_F} {l : t2_L} {Q : Option fl_V → fl_M → Prop} {x : Int32} (hc : 0 ≤ (f 1 5).toInt ∧ (f 1 5).toInt ≤ 16) (hx : 0 ≤ x.toInt ∧ x.toInt < 16) (k : Q (some (.inl (c0_placeOf_v f x))) (f, l)) : fl_Tq (pw_P L xs) 47 0 (fl_args (am_mxl (pw_P L xs) 47) [.inr (.inr (.inl (1, 1))), .inl x]) [] (f, l) Q := by
  refine fl_Tq.cI (c := (0 : Int32)) rfl (by decide +kernel) (fl_bo rfl) ?_
  refine fl_Tq.stp (pc' := 2) (lv' := [some (.inr (.inr (.inl (1, 1)))), some (.inl x), some (.inl (0 : Int32)), none, none, none]) (st' := []) (m' := (f, l)) rfl rfl (fl_bo rfl) rfl ?_
  refine fl_Tq.stp (pc' := 3) (lv' := [some (.inr (.inr (.inl (1, 1)))), some (.inl x), some (.inl (0 : Int32)), none, none, none]) (st' := [.inr (.inr (.inl (1, 1)))]) (m' := (f, l)) rfl rfl (fl_bo rfl) rfl ?_
  refine fl_Tq.stp (pc' := 6) (lv' := [some (.inr (.inr (.inl (1, 1)))), some (.inl x), some (.inl (0 : Int32)), none, none, none]) (st' := [.inr (.inr (.inl (2, 2)))]) (m' := (f, l)) rfl rfl (fl_bo rfl) rfl ?_
  refine fl_Tq.stp (pc' := 7) (lv' := [some (.inr (.inr (.inl (1, 1)))), some (.inl x), some (.inl (0 : Int32)), none, none, none]) (st' := [.inl x, .inr (.inr (.inl (2, 2)))]) (m' := (f, l)) rfl rfl (fl_bo rfl) rfl ?_
  refine fl_Tq.qld (p := 2) (τ := 2) (n := 16) (t := 18) (b := 16) (d := 3) (k := x.toInt.toNat) rfl (fl_bo rfl) rfl (t2_nn hx.1) (by omega) ?_
  show fl_Tq _ 47 8 [some (.inr (.inr (.inl (1, 1)))), some (.inl x), some (.inl (0 : Int32)), none, none, none] [.inr (.inr (.inl (18, 18 + 4 * x.toInt.toNat)))] (f, l) _
  refine fl_Tq.gfV (k := 3) (v := f (18 + 4 * x.toInt.toNat) 3) rfl (fl_oks_ok ⟨(t2_kc0 (by omega)), True.intro⟩) rfl rfl ?_
  refine fl_Tq.stp (pc' := 12) (lv' := [some (.inr (.inr (.inl (1, 1)))), some (.inl x), some (.inl (0 : Int32)), some (.inl (f (18 + 4 * x.toInt.toNat) 3)), none, none]) (st' := []) (m' := (f, l)) rfl rfl (fl_bo rfl) rfl ?_
  refine fl_Tq.cI (c := (0 : Int32)) rfl (by decide +kernel) (fl_bo rfl) ?_
  refine fl_Tq.stp (pc' := 15) (lv' := [some (.inr (.inr (.inl (1, 1)))), some (.inl x), some (.inl (0 : Int32)), some (.inl (f (18 + 4 * x.toInt.toNat) 3)), some (.inl (0 : Int32)), none]) (st' := []) (m' := (f, l)) rfl rfl (fl_bo rfl) rfl ?_
  have hs15 : ∀ k15 : Nat, k15 < (f 1 5).toInt.toNat → fl_Tq (pw_P L xs) 47 15 [some (.inr (.inr (.inl (1, 1)))), some (.inl x), some (.inl (c0_placeOf_a15 f x (k15 + 1))), some (.inl (f (18 + 4 * x.toInt.toNat) 3)), some (.inl (Int32.ofNat (k15 + 1))), none] [] (f, l) Q → fl_Tq (pw_P L xs) 47 15 [some (.inr (.inr (.inl (1, 1)))), some (.inl x), some (.inl (c0_placeOf_a15 f x k15)), some (.inl (f (18 + 4 * x.toInt.toNat) 3)), some (.inl (Int32.ofNat k15)), none] [] (f, l) Q := by
    intro k15 hk15 hS
    refine fl_Tq.stp (pc' := 17) (lv' := [some (.inr (.inr (.inl (1, 1)))), some (.inl x), some (.inl (c0_placeOf_a15 f x k15)), some (.inl (f (18 + 4 * x.toInt.toNat) 3)), some (.inl (Int32.ofNat k15)), none]) (st' := [.inl (Int32.ofNat k15)]) (m' := (f, l)) rfl rfl (fl_bo rfl) rfl ?_
    refine fl_Tq.stp (pc' := 18) (lv' := [some (.inr (.inr (.inl (1, 1)))), some (.inl x), some (.inl (c0_placeOf_a15 f x k15)), some (.inl (f (18 + 4 * x.toInt.toNat) 3)), some (.inl (Int32.ofNat k15)), none]) (st' := [.inr (.inr (.inl (1, 1))), .inl (Int32.ofNat k15)]) (m' := (f, l)) rfl rfl (fl_bo rfl) rfl ?_
    refine fl_Tq.gfV (k := 5) (v := f 1 5) rfl (fl_bo rfl) rfl rfl ?_
    refine fl_Tq.jf rfl (fl_bo rfl) (c2_ge_f (t2_lk hk15 (t2_nn hc.1))) rfl ?_
    refine fl_Tq.stp (pc' := 25) (lv' := [some (.inr (.inr (.inl (1, 1)))), some (.inl x), some (.inl (c0_placeOf_a15 f x k15)), some (.inl (f (18 + 4 * x.toInt.toNat) 3)), some (.inl (Int32.ofNat k15)), none]) (st' := [.inr (.inr (.inl (1, 1)))]) (m' := (f, l)) rfl rfl (fl_bo rfl) rfl ?_
    refine fl_Tq.stp (pc' := 28) (lv' := [some (.inr (.inr (.inl (1, 1)))), some (.inl x), some (.inl (c0_placeOf_a15 f x k15)), some (.inl (f (18 + 4 * x.toInt.toNat) 3)), some (.inl (Int32.ofNat k15)), none]) (st' := [.inr (.inr (.inl (2, 2)))]) (m' := (f, l)) rfl rfl (fl_bo rfl) rfl ?_
    refine fl_Tq.stp (pc' := 30) (lv' := [some (.inr (.inr (.inl (1, 1)))), some (.inl x), some (.inl (c0_placeOf_a15 f x k15)), some (.inl (f (18 + 4 * x.toInt.toNat) 3)), some (.inl (Int32.ofNat k15)), none]) (st' := [.inl (Int32.ofNat k15), .inr (.inr (.inl (2, 2)))]) (m' := (f, l)) rfl rfl (fl_bo rfl) rfl ?_
    refine fl_Tq.qld (p := 2) (τ := 2) (n := 16) (t := 18) (b := 16) (d := 3) (k := k15) rfl (fl_bo rfl) rfl (at_ofN (by omega)) (by omega) ?_
    show fl_Tq _ 47 31 [some (.inr (.inr (.inl (1, 1)))), some (.inl x), some (.inl (c0_placeOf_a15 f x k15)), some (.inl (f (18 + 4 * x.toInt.toNat) 3)), some (.inl (Int32.ofNat k15)), none] [.inr (.inr (.inl (18, 18 + 4 * k15)))] (f, l) _
    refine fl_Tq.gfV (k := 3) (v := f (18 + 4 * k15) 3) rfl (fl_oks_ok ⟨(t2_kc0 (by omega)), True.intro⟩) rfl rfl ?_
    refine fl_Tq.stp (pc' := 35) (lv' := [some (.inr (.inr (.inl (1, 1)))), some (.inl x), some (.inl (c0_placeOf_a15 f x k15)), some (.inl (f (18 + 4 * x.toInt.toNat) 3)), some (.inl (Int32.ofNat k15)), none]) (st' := [.inl (f (18 + 4 * x.toInt.toNat) 3), .inl (f (18 + 4 * k15) 3)]) (m' := (f, l)) rfl rfl (fl_bo rfl) rfl ?_
    have hj114 : fl_Tq (pw_P L xs) 47 49 [some (.inr (.inr (.inl (1, 1)))), some (.inl x), some (.inl (c0_placeOf_a15 f x k15)), some (.inl (f (18 + 4 * x.toInt.toNat) 3)), some (.inl (Int32.ofNat k15)), none] [.inl (if (f (18 + 4 * k15) 3).toInt = (f (18 + 4 * x.toInt.toNat) 3).toInt then (if (Int32.ofNat k15).toInt < x.toInt then (1 : Int32) else (0 : Int32)) else (0 : Int32))] (f, l) Q → fl_Tq (pw_P L xs) 47 35 [some (.inr (.inr (.inl (1, 1)))), some (.inl x), some (.inl (c0_placeOf_a15 f x k15)), some (.inl (f (18 + 4 * x.toInt.toNat) 3)), some (.inl (Int32.ofNat k15)), none] [.inl (f (18 + 4 * x.toInt.toNat) 3), .inl (f (18 + 4 * k15) 3)] (f, l) Q := by
      intro hJ
      by_cases h1 : (f (18 + 4 * k15) 3).toInt = (f (18 + 4 * x.toInt.toNat) 3).toInt
      · refine fl_Tq.jf rfl (fl_bo rfl) (c2_ne_f h1) rfl ?_
        refine fl_Tq.stp (pc' := 40) (lv' := [some (.inr (.inr (.inl (1, 1)))), some (.inl x), some (.inl (c0_placeOf_a15 f x k15)), some (.inl (f (18 + 4 * x.toInt.toNat) 3)), some (.inl (Int32.ofNat k15)), none]) (st' := [.inl (Int32.ofNat k15)]) (m' := (f, l)) rfl rfl (fl_bo rfl) rfl ?_
        refine fl_Tq.stp (pc' := 41) (lv' := [some (.inr (.inr (.inl (1, 1)))), some (.inl x), some (.inl (c0_placeOf_a15 f x k15)), some (.inl (f (18 + 4 * x.toInt.toNat) 3)), some (.inl (Int32.ofNat k15)), none]) (st' := [.inl x, .inl (Int32.ofNat k15)]) (m' := (f, l)) rfl rfl (fl_bo rfl) rfl ?_
        by_cases h2 : (Int32.ofNat k15).toInt < x.toInt
        · refine fl_Tq.jf rfl (fl_bo rfl) (c2_ge_f h2) rfl ?_
          refine fl_Tq.cI (c := (1 : Int32)) rfl (by decide +kernel) (fl_bo rfl) ?_
          refine fl_Tq.stp (pc' := 49) (lv' := [some (.inr (.inr (.inl (1, 1)))), some (.inl x), some (.inl (c0_placeOf_a15 f x k15)), some (.inl (f (18 + 4 * x.toInt.toNat) 3)), some (.inl (Int32.ofNat k15)), none]) (st' := [.inl (1 : Int32)]) (m' := (f, l)) rfl rfl (fl_bo rfl) rfl ?_
          have e0 : (if (f (18 + 4 * k15) 3).toInt = (f (18 + 4 * x.toInt.toNat) 3).toInt then (if (Int32.ofNat k15).toInt < x.toInt then (1 : Int32) else (0 : Int32)) else (0 : Int32)) = (1 : Int32) := by simp only [if_pos h1, if_pos h2]
          rw [e0] at hJ
          exact hJ
        · refine fl_Tq.jt rfl (fl_bo rfl) (c2_ge_t h2) rfl ?_
          refine fl_Tq.cI (c := (0 : Int32)) rfl (by decide +kernel) (fl_bo rfl) ?_
          have e0 : (if (f (18 + 4 * k15) 3).toInt = (f (18 + 4 * x.toInt.toNat) 3).toInt then (if (Int32.ofNat k15).toInt < x.toInt then (1 : Int32) else (0 : Int32)) else (0 : Int32)) = (0 : Int32) := by simp only [if_pos h1, if_neg h2]
          rw [e0] at hJ
          exact hJ
      · refine fl_Tq.jt rfl (fl_bo rfl) (c2_ne_t h1) rfl ?_
        refine fl_Tq.cI (c := (0 : Int32)) rfl (by decide +kernel) (fl_bo rfl) ?_
        have e0 : (if (f (18 + 4 * k15) 3).toInt = (f (18 + 4 * x.toInt.toNat) 3).toInt then (if (Int32.ofNat k15).toInt < x.toInt then (1 : Int32) else (0 : Int32)) else (0 : Int32)) = (0 : Int32) := by simp only [if_neg h1]
        rw [e0] at hJ
        exact hJ
    refine hj114 ?_
    show fl_Tq _ 47 49 [some (.inr (.inr (.inl (1, 1)))), some (.inl x), some (.inl (c0_placeOf_a15 f x k15)), some (.inl (f (18 + 4 * x.toInt.toNat) 3)), some (.inl (Int32.ofNat k15)), none] [.inl (if (f (18 + 4 * k15) 3).toInt = (f (18 + 4 * x.toInt.toNat) 3).toInt then (if (Int32.ofNat k15).toInt < x.toInt then (1 : Int32) else (0 : Int32)) else (0 : Int32))] (f, l) _
    refine fl_Tq.stp (pc' := 51) (lv' := [some (.inr (.inr (.inl (1, 1)))), some (.inl x), some (.inl (c0_placeOf_a15 f x k15)), some (.inl (f (18 + 4 * x.toInt.toNat) 3)), some (.inl (Int32.ofNat k15)), some (.inl (if (f (18 + 4 * k15) 3).toInt = (f (18 + 4 * x.toInt.toNat) 3).toInt then (if (Int32.ofNat k15).toInt < x.toInt then (1 : Int32) else (0 : Int32)) else (0 : Int32)))]) (st' := []) (m' := (f, l)) rfl rfl (fl_bo rfl) rfl ?_
    refine fl_Tq.stp (pc' := 52) (lv' := [some (.inr (.inr (.inl (1, 1)))), some (.inl x), some (.inl (c0_placeOf_a15 f x k15)), some (.inl (f (18 + 4 * x.toInt.toNat) 3)), some (.inl (Int32.ofNat k15)), some (.inl (if (f (18 + 4 * k15) 3).toInt = (f (18 + 4 * x.toInt.toNat) 3).toInt then (if (Int32.ofNat k15).toInt < x.toInt then (1 : Int32) else (0 : Int32)) else (0 : Int32)))]) (st' := [.inl (c0_placeOf_a15 f x k15)]) (m' := (f, l)) rfl rfl (fl_bo rfl) rfl ?_
    refine fl_Tq.stp (pc' := 54) (lv' := [some (.inr (.inr (.inl (1, 1)))), some (.inl x), some (.inl (c0_placeOf_a15 f x k15)), some (.inl (f (18 + 4 * x.toInt.toNat) 3)), some (.inl (Int32.ofNat k15)), some (.inl (if (f (18 + 4 * k15) 3).toInt = (f (18 + 4 * x.toInt.toNat) 3).toInt then (if (Int32.ofNat k15).toInt < x.toInt then (1 : Int32) else (0 : Int32)) else (0 : Int32)))]) (st' := [.inl (if (f (18 + 4 * k15) 3).toInt = (f (18 + 4 * x.toInt.toNat) 3).toInt then (if (Int32.ofNat k15).toInt < x.toInt then (1 : Int32) else (0 : Int32)) else (0 : Int32)), .inl (c0_placeOf_a15 f x k15)]) (m' := (f, l)) rfl rfl (fl_bo rfl) rfl ?_
    have hj115 : fl_Tq (pw_P L xs) 47 76 [some (.inr (.inr (.inl (1, 1)))), some (.inl x), some (.inl (c0_placeOf_a15 f x k15)), some (.inl (f (18 + 4 * x.toInt.toNat) 3)), some (.inl (Int32.ofNat k15)), some (.inl (if (f (18 + 4 * k15) 3).toInt = (f (18 + 4 * x.toInt.toNat) 3).toInt then (if (Int32.ofNat k15).toInt < x.toInt then (1 : Int32) else (0 : Int32)) else (0 : Int32)))] [.inl (if (if (f (18 + 4 * k15) 3).toInt = (f (18 + 4 * x.toInt.toNat) 3).toInt then (if (Int32.ofNat k15).toInt < x.toInt then (1 : Int32) else (0 : Int32)) else (0 : Int32)).toInt = 0 then (if (f (18 + 4 * x.toInt.toNat) 3).toInt < (f (18 + 4 * k15) 3).toInt then (1 : Int32) else (0 : Int32)) else (1 : Int32)), .inl (c0_placeOf_a15 f x k15)] (f, l) Q → fl_Tq (pw_P L xs) 47 54 [some (.inr (.inr (.inl (1, 1)))), some (.inl x), some (.inl (c0_placeOf_a15 f x k15)), some (.inl (f (18 + 4 * x.toInt.toNat) 3)), some (.inl (Int32.ofNat k15)), some (.inl (if (f (18 + 4 * k15) 3).toInt = (f (18 + 4 * x.toInt.toNat) 3).toInt then (if (Int32.ofNat k15).toInt < x.toInt then (1 : Int32) else (0 : Int32)) else (0 : Int32)))] [.inl (if (f (18 + 4 * k15) 3).toInt = (f (18 + 4 * x.toInt.toNat) 3).toInt then (if (Int32.ofNat k15).toInt < x.toInt then (1 : Int32) else (0 : Int32)) else (0 : Int32)), .inl (c0_placeOf_a15 f x k15)] (f, l) Q := by
      intro hJ
      by_cases h3 : (if (f (18 + 4 * k15) 3).toInt = (f (18 + 4 * x.toInt.toNat) 3).toInt then (if (Int32.ofNat k15).toInt < x.toInt then (1 : Int32) else (0 : Int32)) else (0 : Int32)).toInt = 0
      · refine fl_Tq.zf rfl (fl_bo rfl) (c1_ne_f h3) rfl ?_
        refine fl_Tq.stp (pc' := 58) (lv' := [some (.inr (.inr (.inl (1, 1)))), some (.inl x), some (.inl (c0_placeOf_a15 f x k15)), some (.inl (f (18 + 4 * x.toInt.toNat) 3)), some (.inl (Int32.ofNat k15)), some (.inl (if (f (18 + 4 * k15) 3).toInt = (f (18 + 4 * x.toInt.toNat) 3).toInt then (if (Int32.ofNat k15).toInt < x.toInt then (1 : Int32) else (0 : Int32)) else (0 : Int32)))]) (st' := [.inr (.inr (.inl (1, 1))), .inl (c0_placeOf_a15 f x k15)]) (m' := (f, l)) rfl rfl (fl_bo rfl) rfl ?_
        refine fl_Tq.stp (pc' := 61) (lv' := [some (.inr (.inr (.inl (1, 1)))), some (.inl x), some (.inl (c0_placeOf_a15 f x k15)), some (.inl (f (18 + 4 * x.toInt.toNat) 3)), some (.inl (Int32.ofNat k15)), some (.inl (if (f (18 + 4 * k15) 3).toInt = (f (18 + 4 * x.toInt.toNat) 3).toInt then (if (Int32.ofNat k15).toInt < x.toInt then (1 : Int32) else (0 : Int32)) else (0 : Int32)))]) (st' := [.inr (.inr (.inl (2, 2))), .inl (c0_placeOf_a15 f x k15)]) (m' := (f, l)) rfl rfl (fl_bo rfl) rfl ?_
        refine fl_Tq.stp (pc' := 63) (lv' := [some (.inr (.inr (.inl (1, 1)))), some (.inl x), some (.inl (c0_placeOf_a15 f x k15)), some (.inl (f (18 + 4 * x.toInt.toNat) 3)), some (.inl (Int32.ofNat k15)), some (.inl (if (f (18 + 4 * k15) 3).toInt = (f (18 + 4 * x.toInt.toNat) 3).toInt then (if (Int32.ofNat k15).toInt < x.toInt then (1 : Int32) else (0 : Int32)) else (0 : Int32)))]) (st' := [.inl (Int32.ofNat k15), .inr (.inr (.inl (2, 2))), .inl (c0_placeOf_a15 f x k15)]) (m' := (f, l)) rfl rfl (fl_bo rfl) rfl ?_
        refine fl_Tq.qld (p := 2) (τ := 2) (n := 16) (t := 18) (b := 16) (d := 3) (k := k15) rfl (fl_bo rfl) rfl (at_ofN (by omega)) (by omega) ?_
        show fl_Tq _ 47 64 [some (.inr (.inr (.inl (1, 1)))), some (.inl x), some (.inl (c0_placeOf_a15 f x k15)), some (.inl (f (18 + 4 * x.toInt.toNat) 3)), some (.inl (Int32.ofNat k15)), some (.inl (if (f (18 + 4 * k15) 3).toInt = (f (18 + 4 * x.toInt.toNat) 3).toInt then (if (Int32.ofNat k15).toInt < x.toInt then (1 : Int32) else (0 : Int32)) else (0 : Int32)))] [.inr (.inr (.inl (18, 18 + 4 * k15))), .inl (c0_placeOf_a15 f x k15)] (f, l) _
        refine fl_Tq.gfV (k := 3) (v := f (18 + 4 * k15) 3) rfl (fl_oks_ok ⟨(t2_kc0 (by omega)), True.intro, True.intro⟩) rfl rfl ?_
        refine fl_Tq.stp (pc' := 68) (lv' := [some (.inr (.inr (.inl (1, 1)))), some (.inl x), some (.inl (c0_placeOf_a15 f x k15)), some (.inl (f (18 + 4 * x.toInt.toNat) 3)), some (.inl (Int32.ofNat k15)), some (.inl (if (f (18 + 4 * k15) 3).toInt = (f (18 + 4 * x.toInt.toNat) 3).toInt then (if (Int32.ofNat k15).toInt < x.toInt then (1 : Int32) else (0 : Int32)) else (0 : Int32)))]) (st' := [.inl (f (18 + 4 * x.toInt.toNat) 3), .inl (f (18 + 4 * k15) 3), .inl (c0_placeOf_a15 f x k15)]) (m' := (f, l)) rfl rfl (fl_bo rfl) rfl ?_
        by_cases h4 : (f (18 + 4 * x.toInt.toNat) 3).toInt < (f (18 + 4 * k15) 3).toInt
        · refine fl_Tq.jf rfl (fl_bo rfl) (c2_le_f h4) rfl ?_
          refine fl_Tq.cI (c := (1 : Int32)) rfl (by decide +kernel) (fl_bo rfl) ?_
          refine fl_Tq.stp (pc' := 76) (lv' := [some (.inr (.inr (.inl (1, 1)))), some (.inl x), some (.inl (c0_placeOf_a15 f x k15)), some (.inl (f (18 + 4 * x.toInt.toNat) 3)), some (.inl (Int32.ofNat k15)), some (.inl (if (f (18 + 4 * k15) 3).toInt = (f (18 + 4 * x.toInt.toNat) 3).toInt then (if (Int32.ofNat k15).toInt < x.toInt then (1 : Int32) else (0 : Int32)) else (0 : Int32)))]) (st' := [.inl (1 : Int32), .inl (c0_placeOf_a15 f x k15)]) (m' := (f, l)) rfl rfl (fl_bo rfl) rfl ?_
          have e0 : (if (if (f (18 + 4 * k15) 3).toInt = (f (18 + 4 * x.toInt.toNat) 3).toInt then (if (Int32.ofNat k15).toInt < x.toInt then (1 : Int32) else (0 : Int32)) else (0 : Int32)).toInt = 0 then (if (f (18 + 4 * x.toInt.toNat) 3).toInt < (f (18 + 4 * k15) 3).toInt then (1 : Int32) else (0 : Int32)) else (1 : Int32)) = (1 : Int32) := by simp only [if_pos h3, if_pos h4]
          rw [e0] at hJ
          exact hJ
        · refine fl_Tq.jt rfl (fl_bo rfl) (c2_le_t h4) rfl ?_
          refine fl_Tq.cI (c := (0 : Int32)) rfl (by decide +kernel) (fl_bo rfl) ?_
          have e0 : (if (if (f (18 + 4 * k15) 3).toInt = (f (18 + 4 * x.toInt.toNat) 3).toInt then (if (Int32.ofNat k15).toInt < x.toInt then (1 : Int32) else (0 : Int32)) else (0 : Int32)).toInt = 0 then (if (f (18 + 4 * x.toInt.toNat) 3).toInt < (f (18 + 4 * k15) 3).toInt then (1 : Int32) else (0 : Int32)) else (1 : Int32)) = (0 : Int32) := by simp only [if_pos h3, if_neg h4]
          rw [e0] at hJ
          exact hJ
      · refine fl_Tq.zt rfl (fl_bo rfl) (c1_ne_t h3) rfl ?_
        refine fl_Tq.cI (c := (1 : Int32)) rfl (by decide +kernel) (fl_bo rfl) ?_
        refine fl_Tq.stp (pc' := 76) (lv' := [some (.inr (.inr (.inl (1, 1)))), some (.inl x), some (.inl (c0_placeOf_a15 f x k15)), some (.inl (f (18 + 4 * x.toInt.toNat) 3)), some (.inl (Int32.ofNat k15)), some (.inl (if (f (18 + 4 * k15) 3).toInt = (f (18 + 4 * x.toInt.toNat) 3).toInt then (if (Int32.ofNat k15).toInt < x.toInt then (1 : Int32) else (0 : Int32)) else (0 : Int32)))]) (st' := [.inl (1 : Int32), .inl (c0_placeOf_a15 f x k15)]) (m' := (f, l)) rfl rfl (fl_bo rfl) rfl ?_
        have e0 : (if (if (f (18 + 4 * k15) 3).toInt = (f (18 + 4 * x.toInt.toNat) 3).toInt then (if (Int32.ofNat k15).toInt < x.toInt then (1 : Int32) else (0 : Int32)) else (0 : Int32)).toInt = 0 then (if (f (18 + 4 * x.toInt.toNat) 3).toInt < (f (18 + 4 * k15) 3).toInt then (1 : Int32) else (0 : Int32)) else (1 : Int32)) = (1 : Int32) := by simp only [if_neg h3]
        rw [e0] at hJ
        exact hJ
    refine hj115 ?_
    show fl_Tq _ 47 76 [some (.inr (.inr (.inl (1, 1)))), some (.inl x), some (.inl (c0_placeOf_a15 f x k15)), some (.inl (f (18 + 4 * x.toInt.toNat) 3)), some (.inl (Int32.ofNat k15)), some (.inl (if (f (18 + 4 * k15) 3).toInt = (f (18 + 4 * x.toInt.toNat) 3).toInt then (if (Int32.ofNat k15).toInt < x.toInt then (1 : Int32) else (0 : Int32)) else (0 : Int32)))] [.inl (if (if (f (18 + 4 * k15) 3).toInt = (f (18 + 4 * x.toInt.toNat) 3).toInt then (if (Int32.ofNat k15).toInt < x.toInt then (1 : Int32) else (0 : Int32)) else (0 : Int32)).toInt = 0 then (if (f (18 + 4 * x.toInt.toNat) 3).toInt < (f (18 + 4 * k15) 3).toInt then (1 : Int32) else (0 : Int32)) else (1 : Int32)), .inl (c0_placeOf_a15 f x k15)] (f, l) _
    refine fl_Tq.stp (pc' := 77) (lv' := [some (.inr (.inr (.inl (1, 1)))), some (.inl x), some (.inl (c0_placeOf_a15 f x k15)), some (.inl (f (18 + 4 * x.toInt.toNat) 3)), some (.inl (Int32.ofNat k15)), some (.inl (if (f (18 + 4 * k15) 3).toInt = (f (18 + 4 * x.toInt.toNat) 3).toInt then (if (Int32.ofNat k15).toInt < x.toInt then (1 : Int32) else (0 : Int32)) else (0 : Int32)))]) (st' := [.inl ((c0_placeOf_a15 f x k15) + (if (if (f (18 + 4 * k15) 3).toInt = (f (18 + 4 * x.toInt.toNat) 3).toInt then (if (Int32.ofNat k15).toInt < x.toInt then (1 : Int32) else (0 : Int32)) else (0 : Int32)).toInt = 0 then (if (f (18 + 4 * x.toInt.toNat) 3).toInt < (f (18 + 4 * k15) 3).toInt then (1 : Int32) else (0 : Int32)) else (1 : Int32)))]) (m' := (f, l)) rfl rfl (fl_bo rfl) rfl ?_
    refine fl_Tq.stp (pc' := 78) (lv' := [some (.inr (.inr (.inl (1, 1)))), some (.inl x), some (.inl ((c0_placeOf_a15 f x k15) + (if (if (f (18 + 4 * k15) 3).toInt = (f (18 + 4 * x.toInt.toNat) 3).toInt then (if (Int32.ofNat k15).toInt < x.toInt then (1 : Int32) else (0 : Int32)) else (0 : Int32)).toInt = 0 then (if (f (18 + 4 * x.toInt.toNat) 3).toInt < (f (18 + 4 * k15) 3).toInt then (1 : Int32) else (0 : Int32)) else (1 : Int32)))), some (.inl (f (18 + 4 * x.toInt.toNat) 3)), some (.inl (Int32.ofNat k15)), some (.inl (if (f (18 + 4 * k15) 3).toInt = (f (18 + 4 * x.toInt.toNat) 3).toInt then (if (Int32.ofNat k15).toInt < x.toInt then (1 : Int32) else (0 : Int32)) else (0 : Int32)))]) (st' := []) (m' := (f, l)) rfl rfl (fl_bo rfl) rfl ?_
    refine fl_Tq.stp (pc' := 81) (lv' := [some (.inr (.inr (.inl (1, 1)))), some (.inl x), some (.inl ((c0_placeOf_a15 f x k15) + (if (if (f (18 + 4 * k15) 3).toInt = (f (18 + 4 * x.toInt.toNat) 3).toInt then (if (Int32.ofNat k15).toInt < x.toInt then (1 : Int32) else (0 : Int32)) else (0 : Int32)).toInt = 0 then (if (f (18 + 4 * x.toInt.toNat) 3).toInt < (f (18 + 4 * k15) 3).toInt then (1 : Int32) else (0 : Int32)) else (1 : Int32)))), some (.inl (f (18 + 4 * x.toInt.toNat) 3)), some (.inl ((Int32.ofNat k15) + (1 : Int32))), some (.inl (if (f (18 + 4 * k15) 3).toInt = (f (18 + 4 * x.toInt.toNat) 3).toInt then (if (Int32.ofNat k15).toInt < x.toInt then (1 : Int32) else (0 : Int32)) else (0 : Int32)))]) (st' := []) (m' := (f, l)) rfl rfl (fl_bo rfl) rfl ?_
    refine fl_Tq.stp (pc' := 15) (lv' := [some (.inr (.inr (.inl (1, 1)))), some (.inl x), some (.inl ((c0_placeOf_a15 f x k15) + (if (if (f (18 + 4 * k15) 3).toInt = (f (18 + 4 * x.toInt.toNat) 3).toInt then (if (Int32.ofNat k15).toInt < x.toInt then (1 : Int32) else (0 : Int32)) else (0 : Int32)).toInt = 0 then (if (f (18 + 4 * x.toInt.toNat) 3).toInt < (f (18 + 4 * k15) 3).toInt then (1 : Int32) else (0 : Int32)) else (1 : Int32)))), some (.inl (f (18 + 4 * x.toInt.toNat) 3)), some (.inl ((Int32.ofNat k15) + (1 : Int32))), some (.inl (if (f (18 + 4 * k15) 3).toInt = (f (18 + 4 * x.toInt.toNat) 3).toInt then (if (Int32.ofNat k15).toInt < x.toInt then (1 : Int32) else (0 : Int32)) else (0 : Int32)))]) (st' := []) (m' := (f, l)) rfl rfl (fl_bo rfl) rfl ?_
    have ea : c0_placeOf_a15 f x (k15 + 1) = (c0_placeOf_a15 f x k15) + (if (if (f (18 + 4 * k15) 3).toInt = (f (18 + 4 * x.toInt.toNat) 3).toInt then (if (Int32.ofNat k15).toInt < x.toInt then (1 : Int32) else (0 : Int32)) else (0 : Int32)).toInt = 0 then (if (f (18 + 4 * x.toInt.toNat) 3).toInt < (f (18 + 4 * k15) 3).toInt then (1 : Int32) else (0 : Int32)) else (1 : Int32)) := by
      show ((c0_placeOf_a15 f x k15) + (if (if (f (18 + 4 * k15) 3).toInt = (f (18 + 4 * x.toInt.toNat) 3).toInt then (if (Int32.ofNat k15).toInt < x.toInt then (1 : Int32) else (0 : Int32)) else (0 : Int32)).toInt = 0 then (if (f (18 + 4 * x.toInt.toNat) 3).toInt < (f (18 + 4 * k15) 3).toInt then (1 : Int32) else (0 : Int32)) else (1 : Int32))) = _
      rfl
    rw [ea, ← t2_k1] at hS
    exact fl_Tq.fg hS ⟨rfl, rfl, rfl, rfl, rfl, True.intro⟩
  refine t2_for (S := fun k15 => fl_Tq (pw_P L xs) 47 15 [some (.inr (.inr (.inl (1, 1)))), some (.inl x), some (.inl (c0_placeOf_a15 f x k15)), some (.inl (f (18 + 4 * x.toInt.toNat) 3)), some (.inl (Int32.ofNat k15)), none] [] (f, l) Q) hs15 ?_
  show fl_Tq (pw_P L xs) 47 15 [some (.inr (.inr (.inl (1, 1)))), some (.inl x), some (.inl (c0_placeOf_a15 f x ((f 1 5).toInt.toNat))), some (.inl (f (18 + 4 * x.toInt.toNat) 3)), some (.inl (Int32.ofNat ((f 1 5).toInt.toNat))), none] [] (f, l) _
  refine fl_Tq.stp (pc' := 17) (lv' := [some (.inr (.inr (.inl (1, 1)))), some (.inl x), some (.inl (c0_placeOf_a15 f x ((f 1 5).toInt.toNat))), some (.inl (f (18 + 4 * x.toInt.toNat) 3)), some (.inl (Int32.ofNat ((f 1 5).toInt.toNat))), none]) (st' := [.inl (Int32.ofNat ((f 1 5).toInt.toNat))]) (m' := (f, l)) rfl rfl (fl_bo rfl) rfl ?_
  refine fl_Tq.stp (pc' := 18) (lv' := [some (.inr (.inr (.inl (1, 1)))), some (.inl x), some (.inl (c0_placeOf_a15 f x ((f 1 5).toInt.toNat))), some (.inl (f (18 + 4 * x.toInt.toNat) 3)), some (.inl (Int32.ofNat ((f 1 5).toInt.toNat))), none]) (st' := [.inr (.inr (.inl (1, 1))), .inl (Int32.ofNat ((f 1 5).toInt.toNat))]) (m' := (f, l)) rfl rfl (fl_bo rfl) rfl ?_
  refine fl_Tq.gfV (k := 5) (v := f 1 5) rfl (fl_bo rfl) rfl rfl ?_
  refine fl_Tq.jt rfl (fl_bo rfl) (c2_ge_t (t2_ln (t2_nn hc.1))) rfl ?_
  refine fl_Tq.stp (pc' := 85) (lv' := [some (.inr (.inr (.inl (1, 1)))), some (.inl x), some (.inl (c0_placeOf_a15 f x ((f 1 5).toInt.toNat))), some (.inl (f (18 + 4 * x.toInt.toNat) 3)), some (.inl (Int32.ofNat ((f 1 5).toInt.toNat))), none]) (st' := [.inl (c0_placeOf_a15 f x ((f 1 5).toInt.toNat))]) (m' := (f, l)) rfl rfl (fl_bo rfl) rfl ?_
  exact fl_Tq.ret rfl rfl rfl k
noncomputable def c0_rankedCell_e2 (f : t2_F) (x : Int32) : Nat → Option Int32
  | 0 => none
  | k2 + 1 => match c0_rankedCell_e2 f x k2 with
    | some r => some r
    | none => if (c0_placeOf_v f (Int32.ofNat k2)).toInt = x.toInt then some (Int32.ofNat k2) else none
noncomputable def c0_rankedCell_v (f : t2_F) (x : Int32) : Int32 := match c0_rankedCell_e2 f x ((f 1 5).toInt.toNat) with | some r => r | none => (-1 : Int32)
theorem c0_rankedCell_q {L : Nat} {xs : Nat → Int32} {f : t2_F} {l : t2_L} {Q : Option fl_V → fl_M → Prop} {x : Int32} (hc : 0 ≤ (f 1 5).toInt ∧ (f 1 5).toInt ≤ 16) (k : Q (some (.inl (c0_rankedCell_v f x))) (f, l)) : fl_Tq (pw_P L xs) 46 0 (fl_args (am_mxl (pw_P L xs) 46) [.inr (.inr (.inl (1, 1))), .inl x]) [] (f, l) Q := by
  refine fl_Tq.cI (c := (0 : Int32)) rfl (by decide +kernel) (fl_bo rfl) ?_
  refine fl_Tq.stp (pc' := 2) (lv' := [some (.inr (.inr (.inl (1, 1)))), some (.inl x), some (.inl (0 : Int32))]) (st' := []) (m' := (f, l)) rfl rfl (fl_bo rfl) rfl ?_
  have hm2 : ∀ (k : Nat) (r : Int32), c0_rankedCell_e2 f x k = some r → c0_rankedCell_e2 f x (k + 1) = some r := fun k r e => by
    unfold c0_rankedCell_e2
    rw [e]
  have hs2 : ∀ k2 : Nat, k2 < (f 1 5).toInt.toNat → c0_rankedCell_e2 f x k2 = none → (c0_rankedCell_e2 f x (k2 + 1) = none → fl_Tq (pw_P L xs) 46 2 [some (.inr (.inr (.inl (1, 1)))), some (.inl x), some (.inl (Int32.ofNat (k2 + 1)))] [] (f, l) Q) → fl_Tq (pw_P L xs) 46 2 [some (.inr (.inr (.inl (1, 1)))), some (.inl x), some (.inl (Int32.ofNat k2))] [] (f, l) Q := by
    intro k2 hk2 he hS
    refine fl_Tq.stp (pc' := 3) (lv' := [some (.inr (.inr (.inl (1, 1)))), some (.inl x), some (.inl (Int32.ofNat k2))]) (st' := [.inl (Int32.ofNat k2)]) (m' := (f, l)) rfl rfl (fl_bo rfl) rfl ?_
    refine fl_Tq.stp (pc' := 4) (lv' := [some (.inr (.inr (.inl (1, 1)))), some (.inl x), some (.inl (Int32.ofNat k2))]) (st' := [.inr (.inr (.inl (1, 1))), .inl (Int32.ofNat k2)]) (m' := (f, l)) rfl rfl (fl_bo rfl) rfl ?_
    refine fl_Tq.gfV (k := 5) (v := f 1 5) rfl (fl_bo rfl) rfl rfl ?_
    refine fl_Tq.jf rfl (fl_bo rfl) (c2_ge_f (t2_lk hk2 (t2_nn hc.1))) rfl ?_
    refine fl_Tq.stp (pc' := 11) (lv' := [some (.inr (.inr (.inl (1, 1)))), some (.inl x), some (.inl (Int32.ofNat k2))]) (st' := [.inr (.inr (.inl (1, 1)))]) (m' := (f, l)) rfl rfl (fl_bo rfl) rfl ?_
    refine fl_Tq.stp (pc' := 12) (lv' := [some (.inr (.inr (.inl (1, 1)))), some (.inl x), some (.inl (Int32.ofNat k2))]) (st' := [.inl (Int32.ofNat k2), .inr (.inr (.inl (1, 1)))]) (m' := (f, l)) rfl rfl (fl_bo rfl) rfl ?_
    refine fl_Tq.cal rfl rfl (fl_bo rfl) rfl ?_
    refine c0_placeOf_q hc (by have e := at_ofN (k := k2) (by omega); omega) ?_
    show fl_Tq _ 46 15 [some (.inr (.inr (.inl (1, 1)))), some (.inl x), some (.inl (Int32.ofNat k2))] [.inl (c0_placeOf_v f (Int32.ofNat k2))] (f, l) _
    refine fl_Tq.stp (pc' := 16) (lv' := [some (.inr (.inr (.inl (1, 1)))), some (.inl x), some (.inl (Int32.ofNat k2))]) (st' := [.inl x, .inl (c0_placeOf_v f (Int32.ofNat k2))]) (m' := (f, l)) rfl rfl (fl_bo rfl) rfl ?_
    by_cases h1 : (c0_placeOf_v f (Int32.ofNat k2)).toInt = x.toInt
    · refine fl_Tq.jf rfl (fl_bo rfl) (c2_ne_f h1) rfl ?_
      refine fl_Tq.stp (pc' := 20) (lv' := [some (.inr (.inr (.inl (1, 1)))), some (.inl x), some (.inl (Int32.ofNat k2))]) (st' := [.inl (Int32.ofNat k2)]) (m' := (f, l)) rfl rfl (fl_bo rfl) rfl ?_
      have ee : c0_rankedCell_e2 f x (k2 + 1) = some (Int32.ofNat k2) := by
        unfold c0_rankedCell_e2
        rw [he]
        simp only [if_pos h1]
      have en : c0_rankedCell_e2 f x ((f 1 5).toInt.toNat) = some (Int32.ofNat k2) := t2_Em hm2 ee (by omega)
      refine fl_Tq.ret rfl rfl rfl ?_
      unfold c0_rankedCell_v at k
      simp only [en] at k
      exact k
    · refine fl_Tq.jt rfl (fl_bo rfl) (c2_ne_t h1) rfl ?_
      refine fl_Tq.stp (pc' := 24) (lv' := [some (.inr (.inr (.inl (1, 1)))), some (.inl x), some (.inl ((Int32.ofNat k2) + (1 : Int32)))]) (st' := []) (m' := (f, l)) rfl rfl (fl_bo rfl) rfl ?_
      refine fl_Tq.stp (pc' := 2) (lv' := [some (.inr (.inr (.inl (1, 1)))), some (.inl x), some (.inl ((Int32.ofNat k2) + (1 : Int32)))]) (st' := []) (m' := (f, l)) rfl rfl (fl_bo rfl) rfl ?_
      have ee : c0_rankedCell_e2 f x (k2 + 1) = none := by
        unfold c0_rankedCell_e2
        rw [he]
        simp only [if_neg h1]
      have hS := hS ee
      rw [← t2_k1] at hS
      exact hS
  refine t2_forE (E := c0_rankedCell_e2 f x) (S := fun k2 => fl_Tq (pw_P L xs) 46 2 [some (.inr (.inr (.inl (1, 1)))), some (.inl x), some (.inl (Int32.ofNat k2))] [] (f, l) Q) hs2 rfl (fun en2 => ?_)
  show fl_Tq (pw_P L xs) 46 2 [some (.inr (.inr (.inl (1, 1)))), some (.inl x), some (.inl (Int32.ofNat ((f 1 5).toInt.toNat)))] [] (f, l) _
  refine fl_Tq.stp (pc' := 3) (lv' := [some (.inr (.inr (.inl (1, 1)))), some (.inl x), some (.inl (Int32.ofNat ((f 1 5).toInt.toNat)))]) (st' := [.inl (Int32.ofNat ((f 1 5).toInt.toNat))]) (m' := (f, l)) rfl rfl (fl_bo rfl) rfl ?_
  refine fl_Tq.stp (pc' := 4) (lv' := [some (.inr (.inr (.inl (1, 1)))), some (.inl x), some (.inl (Int32.ofNat ((f 1 5).toInt.toNat)))]) (st' := [.inr (.inr (.inl (1, 1))), .inl (Int32.ofNat ((f 1 5).toInt.toNat))]) (m' := (f, l)) rfl rfl (fl_bo rfl) rfl ?_
  refine fl_Tq.gfV (k := 5) (v := f 1 5) rfl (fl_bo rfl) rfl rfl ?_
  refine fl_Tq.jt rfl (fl_bo rfl) (c2_ge_t (t2_ln (t2_nn hc.1))) rfl ?_
  refine fl_Tq.cI (c := (-1 : Int32)) rfl (by decide +kernel) (fl_bo rfl) ?_
  refine fl_Tq.ret rfl rfl rfl ?_
  unfold c0_rankedCell_v at k
  simp only [en2] at k
  exact k
