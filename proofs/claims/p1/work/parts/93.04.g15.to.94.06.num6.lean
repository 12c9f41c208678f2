/-! 93.04.g15.lean.txt -/
section
theorem t2_win10 {x : Int32} (h : ¬ (t2_within_v x (0 : Int32) (10 : Int32)).toInt = 0) : 0 ≤ x.toInt ∧ x.toInt ≤ 10 := by
  have e0 : (0 : Int32).toInt = 0 := rfl
  have e10 : (10 : Int32).toInt = 10 := by decide +kernel
  unfold t2_within_v at h
  repeat' split at h
  all_goals first | omega | exact absurd rfl h
noncomputable def c0_couldReset_v (f : t2_F) (x : Int32) : Int32 := if (t2_within_v x (0 : Int32) (10 : Int32)).toInt = 0 then (0 : Int32) else (if ((f 10 3) &&& ((1 : Int32) <<< (x &&& 31))).toInt = 0 then (0 : Int32) else (if (f 1 7).toInt = 0 then (if ((f 1 6) - (f 11 x.toInt.toNat)).toInt < (f 4 21).toInt then (0 : Int32) else (1 : Int32)) else (0 : Int32)))
theorem c0_couldReset_q {L : Nat} {xs : Nat → Int32} {f : t2_F} {l : t2_L} {Q : Option fl_V → fl_M → Prop} {x : Int32}  (k : Q (some (.inl (c0_couldReset_v f x))) (f, l)) : fl_Tq (pw_P L xs) 37 0 (fl_args (am_mxl (pw_P L xs) 37) [.inr (.inr (.inl (1, 1))), .inl x]) [] (f, l) Q := by
  refine fl_Tq.stp (pc' := 1) (lv' := [some (.inr (.inr (.inl (1, 1)))), some (.inl x)]) (st' := [.inl x]) (m' := (f, l)) rfl rfl (fl_bo rfl) rfl ?_
  refine fl_Tq.cI (c := (0 : Int32)) rfl (by decide +kernel) (fl_bo rfl) ?_
  refine fl_Tq.cB (c := (10 : Int32)) rfl (by decide +kernel) (fl_bo rfl) ?_
  refine fl_Tq.cal rfl rfl (fl_bo rfl) rfl ?_
  refine t2_within_q  ?_
  show fl_Tq _ 37 7 [some (.inr (.inr (.inl (1, 1)))), some (.inl x)] [.inl (t2_within_v x (0 : Int32) (10 : Int32))] (f, l) _
  by_cases h1 : (t2_within_v x (0 : Int32) (10 : Int32)).toInt = 0
  · refine fl_Tq.zt rfl (fl_bo rfl) (c1_eq_t h1) rfl ?_
    refine fl_Tq.cI (c := (0 : Int32)) rfl (by decide +kernel) (fl_bo rfl) ?_
    refine fl_Tq.ret rfl rfl rfl ?_
    unfold c0_couldReset_v at k
    simp only [if_pos h1] at k
    exact k
  · refine fl_Tq.zf rfl (fl_bo rfl) (c1_eq_f h1) rfl ?_
    refine fl_Tq.stp (pc' := 11) (lv' := [some (.inr (.inr (.inl (1, 1)))), some (.inl x)]) (st' := [.inr (.inr (.inl (1, 1)))]) (m' := (f, l)) rfl rfl (fl_bo rfl) rfl ?_
    refine fl_Tq.stp (pc' := 14) (lv' := [some (.inr (.inr (.inl (1, 1)))), some (.inl x)]) (st' := [.inr (.inr (.inl (10, 10)))]) (m' := (f, l)) rfl rfl (fl_bo rfl) rfl ?_
    refine fl_Tq.gfV (k := 3) (v := f 10 3) rfl (fl_bo rfl) rfl rfl ?_
    refine fl_Tq.cI (c := (1 : Int32)) rfl (by decide +kernel) (fl_bo rfl) ?_
    refine fl_Tq.stp (pc' := 19) (lv' := [some (.inr (.inr (.inl (1, 1)))), some (.inl x)]) (st' := [.inl x, .inl (1 : Int32), .inl (f 10 3)]) (m' := (f, l)) rfl rfl (fl_bo rfl) rfl ?_
    refine fl_Tq.stp (pc' := 20) (lv' := [some (.inr (.inr (.inl (1, 1)))), some (.inl x)]) (st' := [.inl ((1 : Int32) <<< (x &&& 31)), .inl (f 10 3)]) (m' := (f, l)) rfl rfl (fl_bo rfl) rfl ?_
    refine fl_Tq.stp (pc' := 21) (lv' := [some (.inr (.inr (.inl (1, 1)))), some (.inl x)]) (st' := [.inl ((f 10 3) &&& ((1 : Int32) <<< (x &&& 31)))]) (m' := (f, l)) rfl rfl (fl_bo rfl) rfl ?_
    by_cases h2 : ((f 10 3) &&& ((1 : Int32) <<< (x &&& 31))).toInt = 0
    · refine fl_Tq.zf rfl (fl_bo rfl) (c1_ne_f h2) rfl ?_
      refine fl_Tq.cI (c := (0 : Int32)) rfl (by decide +kernel) (fl_bo rfl) ?_
      refine fl_Tq.ret rfl rfl rfl ?_
      unfold c0_couldReset_v at k
      simp only [if_neg h1, if_pos h2] at k
      exact k
    · refine fl_Tq.zt rfl (fl_bo rfl) (c1_ne_t h2) rfl ?_
      refine fl_Tq.stp (pc' := 27) (lv' := [some (.inr (.inr (.inl (1, 1)))), some (.inl x)]) (st' := [.inr (.inr (.inl (1, 1)))]) (m' := (f, l)) rfl rfl (fl_bo rfl) rfl ?_
      refine fl_Tq.gfV (k := 7) (v := f 1 7) rfl (fl_bo rfl) rfl rfl ?_
      by_cases h3 : (f 1 7).toInt = 0
      · refine fl_Tq.zf rfl (fl_bo rfl) (c1_ne_f h3) rfl ?_
        refine fl_Tq.stp (pc' := 34) (lv' := [some (.inr (.inr (.inl (1, 1)))), some (.inl x)]) (st' := [.inr (.inr (.inl (1, 1)))]) (m' := (f, l)) rfl rfl (fl_bo rfl) rfl ?_
        refine fl_Tq.gfV (k := 6) (v := f 1 6) rfl (fl_bo rfl) rfl rfl ?_
        refine fl_Tq.stp (pc' := 38) (lv' := [some (.inr (.inr (.inl (1, 1)))), some (.inl x)]) (st' := [.inr (.inr (.inl (1, 1))), .inl (f 1 6)]) (m' := (f, l)) rfl rfl (fl_bo rfl) rfl ?_
        refine fl_Tq.stp (pc' := 41) (lv' := [some (.inr (.inr (.inl (1, 1)))), some (.inl x)]) (st' := [.inr (.inr (.inl (10, 10))), .inl (f 1 6)]) (m' := (f, l)) rfl rfl (fl_bo rfl) rfl ?_
        refine fl_Tq.stp (pc' := 44) (lv' := [some (.inr (.inr (.inl (1, 1)))), some (.inl x)]) (st' := [.inr (.inr (.inl (11, 11))), .inl (f 1 6)]) (m' := (f, l)) rfl rfl (fl_bo rfl) rfl ?_
        refine fl_Tq.stp (pc' := 45) (lv' := [some (.inr (.inr (.inl (1, 1)))), some (.inl x)]) (st' := [.inl x, .inr (.inr (.inl (11, 11))), .inl (f 1 6)]) (m' := (f, l)) rfl rfl (fl_bo rfl) rfl ?_
        refine fl_Tq.ldV (p := 11) (τ := 11) (n := 11) (z := (0, 0, 0)) (k := x.toInt.toNat) (v := f 11 x.toInt.toNat) rfl (fl_bo rfl) rfl (t2_nn (t2_win10 h1).1) (by have := t2_win10 h1; omega) rfl ?_
        refine fl_Tq.stp (pc' := 47) (lv' := [some (.inr (.inr (.inl (1, 1)))), some (.inl x)]) (st' := [.inl ((f 1 6) - (f 11 x.toInt.toNat))]) (m' := (f, l)) rfl rfl (fl_bo rfl) rfl ?_
        refine fl_Tq.stp (pc' := 48) (lv' := [some (.inr (.inr (.inl (1, 1)))), some (.inl x)]) (st' := [.inr (.inr (.inl (1, 1))), .inl ((f 1 6) - (f 11 x.toInt.toNat))]) (m' := (f, l)) rfl rfl (fl_bo rfl) rfl ?_
        refine fl_Tq.stp (pc' := 51) (lv' := [some (.inr (.inr (.inl (1, 1)))), some (.inl x)]) (st' := [.inr (.inr (.inl (3, 3))), .inl ((f 1 6) - (f 11 x.toInt.toNat))]) (m' := (f, l)) rfl rfl (fl_bo rfl) rfl ?_
        refine fl_Tq.stp (pc' := 54) (lv' := [some (.inr (.inr (.inl (1, 1)))), some (.inl x)]) (st' := [.inr (.inr (.inl (4, 4))), .inl ((f 1 6) - (f 11 x.toInt.toNat))]) (m' := (f, l)) rfl rfl (fl_bo rfl) rfl ?_
        refine fl_Tq.cB (c := (21 : Int32)) rfl (by decide +kernel) (fl_bo rfl) ?_
        refine fl_Tq.ldV (p := 4) (τ := 4) (n := 30) (z := (0, 0, 0)) (k := 21) (v := f 4 21) rfl (fl_bo rfl) rfl (by decide +kernel) (by decide) rfl ?_
        by_cases h4 : ((f 1 6) - (f 11 x.toInt.toNat)).toInt < (f 4 21).toInt
        · refine fl_Tq.jt rfl (fl_bo rfl) (c2_lt_t h4) rfl ?_
          refine fl_Tq.cI (c := (0 : Int32)) rfl (by decide +kernel) (fl_bo rfl) ?_
          refine fl_Tq.ret rfl rfl rfl ?_
          unfold c0_couldReset_v at k
          simp only [if_neg h1, if_neg h2, if_pos h3, if_pos h4] at k
          exact k
        · refine fl_Tq.jf rfl (fl_bo rfl) (c2_lt_f h4) rfl ?_
          refine fl_Tq.cI (c := (1 : Int32)) rfl (by decide +kernel) (fl_bo rfl) ?_
          refine fl_Tq.stp (pc' := 65) (lv' := [some (.inr (.inr (.inl (1, 1)))), some (.inl x)]) (st' := [.inl (1 : Int32)]) (m' := (f, l)) rfl rfl (fl_bo rfl) rfl ?_
          refine fl_Tq.ret rfl rfl rfl ?_
          unfold c0_couldReset_v at k
          simp only [if_neg h1, if_neg h2, if_pos h3, if_neg h4] at k
          exact k
      · refine fl_Tq.zt rfl (fl_bo rfl) (c1_ne_t h3) rfl ?_
        refine fl_Tq.cI (c := (0 : Int32)) rfl (by decide +kernel) (fl_bo rfl) ?_
        refine fl_Tq.ret rfl rfl rfl ?_
        unfold c0_couldReset_v at k
        simp only [if_neg h1, if_neg h2, if_neg h3] at k
        exact k
noncomputable def c0_hasEnded_e2 (f : t2_F) (x : Int32) : Nat → Option Int32
  | 0 => none
  | k2 + 1 => match c0_hasEnded_e2 f x k2 with
    | some r => some r
    | none => if (f (18 + 4 * k2) 2).toInt = (if x.toInt = 0 then (f (18 + 4 * k2) 0) * (3600 : Int32) else (0 : Int32)).toInt then some (1 : Int32) else none
noncomputable def c0_hasEnded_v (f : t2_F) (x : Int32) : Int32 := match c0_hasEnded_e2 f x ((f 1 5).toInt.toNat) with | some r => r | none => (0 : Int32)
theorem c0_hasEnded_q {L : Nat} {xs : Nat → Int32} {f : t2_F} {l : t2_L} {Q : Option fl_V → fl_M → Prop} {x : Int32} (hc : 0 ≤ (f 1 5).toInt ∧ (f 1 5).toInt ≤ 16) (k : Q (some (.inl (c0_hasEnded_v f x))) (f, l)) : fl_Tq (pw_P L xs) 49 0 (fl_args (am_mxl (pw_P L xs) 49) [.inr (.inr (.inl (1, 1))), .inl x]) [] (f, l) Q := by
  refine fl_Tq.cI (c := (0 : Int32)) rfl (by decide +kernel) (fl_bo rfl) ?_
  refine fl_Tq.stp (pc' := 2) (lv' := [some (.inr (.inr (.inl (1, 1)))), some (.inl x), some (.inl (0 : Int32))]) (st' := []) (m' := (f, l)) rfl rfl (fl_bo rfl) rfl ?_
  have hm2 : ∀ (k : Nat) (r : Int32), c0_hasEnded_e2 f x k = some r → c0_hasEnded_e2 f x (k + 1) = some r := fun k r e => by
    unfold c0_hasEnded_e2
    rw [e]
  have hs2 : ∀ k2 : Nat, k2 < (f 1 5).toInt.toNat → c0_hasEnded_e2 f x k2 = none → (c0_hasEnded_e2 f x (k2 + 1) = none → fl_Tq (pw_P L xs) 49 2 [some (.inr (.inr (.inl (1, 1)))), some (.inl x), some (.inl (Int32.ofNat (k2 + 1)))] [] (f, l) Q) → fl_Tq (pw_P L xs) 49 2 [some (.inr (.inr (.inl (1, 1)))), some (.inl x), some (.inl (Int32.ofNat k2))] [] (f, l) Q := by
    intro k2 hk2 he hS
    refine fl_Tq.stp (pc' := 3) (lv' := [some (.inr (.inr (.inl (1, 1)))), some (.inl x), some (.inl (Int32.ofNat k2))]) (st' := [.inl (Int32.ofNat k2)]) (m' := (f, l)) rfl rfl (fl_bo rfl) rfl ?_
    refine fl_Tq.stp (pc' := 4) (lv' := [some (.inr (.inr (.inl (1, 1)))), some (.inl x), some (.inl (Int32.ofNat k2))]) (st' := [.inr (.inr (.inl (1, 1))), .inl (Int32.ofNat k2)]) (m' := (f, l)) rfl rfl (fl_bo rfl) rfl ?_
    refine fl_Tq.gfV (k := 5) (v := f 1 5) rfl (fl_bo rfl) rfl rfl ?_
    refine fl_Tq.jf rfl (fl_bo rfl) (c2_ge_f (t2_lk hk2 (t2_nn hc.1))) rfl ?_
    refine fl_Tq.stp (pc' := 11) (lv' := [some (.inr (.inr (.inl (1, 1)))), some (.inl x), some (.inl (Int32.ofNat k2))]) (st' := [.inr (.inr (.inl (1, 1)))]) (m' := (f, l)) rfl rfl (fl_bo rfl) rfl ?_
    refine fl_Tq.stp (pc' := 14) (lv' := [some (.inr (.inr (.inl (1, 1)))), some (.inl x), some (.inl (Int32.ofNat k2))]) (st' := [.inr (.inr (.inl (2, 2)))]) (m' := (f, l)) rfl rfl (fl_bo rfl) rfl ?_
    refine fl_Tq.stp (pc' := 15) (lv' := [some (.inr (.inr (.inl (1, 1)))), some (.inl x), some (.inl (Int32.ofNat k2))]) (st' := [.inl (Int32.ofNat k2), .inr (.inr (.inl (2, 2)))]) (m' := (f, l)) rfl rfl (fl_bo rfl) rfl ?_
    refine fl_Tq.qld (p := 2) (τ := 2) (n := 16) (t := 18) (b := 16) (d := 3) (k := k2) rfl (fl_bo rfl) rfl (at_ofN (by omega)) (by omega) ?_
    show fl_Tq _ 49 16 [some (.inr (.inr (.inl (1, 1)))), some (.inl x), some (.inl (Int32.ofNat k2))] [.inr (.inr (.inl (18, 18 + 4 * k2)))] (f, l) _
    refine fl_Tq.gfV (k := 2) (v := f (18 + 4 * k2) 2) rfl (fl_oks_ok ⟨(t2_kc0 (by omega)), True.intro⟩) rfl rfl ?_
    refine fl_Tq.stp (pc' := 20) (lv' := [some (.inr (.inr (.inl (1, 1)))), some (.inl x), some (.inl (Int32.ofNat k2))]) (st' := [.inl x, .inl (f (18 + 4 * k2) 2)]) (m' := (f, l)) rfl rfl (fl_bo rfl) rfl ?_
    have hj169 : fl_Tq (pw_P L xs) 49 36 [some (.inr (.inr (.inl (1, 1)))), some (.inl x), some (.inl (Int32.ofNat k2))] [.inl (if x.toInt = 0 then (f (18 + 4 * k2) 0) * (3600 : Int32) else (0 : Int32)), .inl (f (18 + 4 * k2) 2)] (f, l) Q → fl_Tq (pw_P L xs) 49 20 [some (.inr (.inr (.inl (1, 1)))), some (.inl x), some (.inl (Int32.ofNat k2))] [.inl x, .inl (f (18 + 4 * k2) 2)] (f, l) Q := by
      intro hJ
      by_cases h1 : x.toInt = 0
      · refine fl_Tq.zf rfl (fl_bo rfl) (c1_ne_f h1) rfl ?_
        refine fl_Tq.stp (pc' := 24) (lv' := [some (.inr (.inr (.inl (1, 1)))), some (.inl x), some (.inl (Int32.ofNat k2))]) (st' := [.inr (.inr (.inl (1, 1))), .inl (f (18 + 4 * k2) 2)]) (m' := (f, l)) rfl rfl (fl_bo rfl) rfl ?_
        refine fl_Tq.stp (pc' := 27) (lv' := [some (.inr (.inr (.inl (1, 1)))), some (.inl x), some (.inl (Int32.ofNat k2))]) (st' := [.inr (.inr (.inl (2, 2))), .inl (f (18 + 4 * k2) 2)]) (m' := (f, l)) rfl rfl (fl_bo rfl) rfl ?_
        refine fl_Tq.stp (pc' := 28) (lv' := [some (.inr (.inr (.inl (1, 1)))), some (.inl x), some (.inl (Int32.ofNat k2))]) (st' := [.inl (Int32.ofNat k2), .inr (.inr (.inl (2, 2))), .inl (f (18 + 4 * k2) 2)]) (m' := (f, l)) rfl rfl (fl_bo rfl) rfl ?_
        refine fl_Tq.qld (p := 2) (τ := 2) (n := 16) (t := 18) (b := 16) (d := 3) (k := k2) rfl (fl_bo rfl) rfl (at_ofN (by omega)) (by omega) ?_
        show fl_Tq _ 49 29 [some (.inr (.inr (.inl (1, 1)))), some (.inl x), some (.inl (Int32.ofNat k2))] [.inr (.inr (.inl (18, 18 + 4 * k2))), .inl (f (18 + 4 * k2) 2)] (f, l) _
        refine fl_Tq.cal rfl rfl (fl_oks_ok ⟨(t2_kc0 (by omega)), True.intro, True.intro⟩) rfl ?_
        refine fl_Tq.stp (pc' := 1) (lv' := [some (.inr (.inr (.inl (18, 18 + 4 * k2))))]) (st' := [.inr (.inr (.inl (18, 18 + 4 * k2)))]) (m' := (f, l)) rfl rfl (fl_bo rfl) rfl ?_
        refine fl_Tq.gfV (k := 0) (v := f (18 + 4 * k2) 0) rfl (fl_oks_ok ⟨(t2_kc0 (by omega)), True.intro⟩) rfl rfl ?_
        refine fl_Tq.cS (c := (3600 : Int32)) rfl (by decide +kernel) (fl_bo rfl) ?_
        refine fl_Tq.stp (pc' := 8) (lv' := [some (.inr (.inr (.inl (18, 18 + 4 * k2))))]) (st' := [.inl ((f (18 + 4 * k2) 0) * (3600 : Int32))]) (m' := (f, l)) rfl rfl (fl_bo rfl) rfl ?_
        refine fl_Tq.ret rfl rfl rfl ?_
        show fl_Tq _ 49 32 [some (.inr (.inr (.inl (1, 1)))), some (.inl x), some (.inl (Int32.ofNat k2))] [.inl ((f (18 + 4 * k2) 0) * (3600 : Int32)), .inl (f (18 + 4 * k2) 2)] (f, l) _
        refine fl_Tq.stp (pc' := 36) (lv' := [some (.inr (.inr (.inl (1, 1)))), some (.inl x), some (.inl (Int32.ofNat k2))]) (st' := [.inl ((f (18 + 4 * k2) 0) * (3600 : Int32)), .inl (f (18 + 4 * k2) 2)]) (m' := (f, l)) rfl rfl (fl_bo rfl) rfl ?_
        have e0 : (if x.toInt = 0 then (f (18 + 4 * k2) 0) * (3600 : Int32) else (0 : Int32)) = (f (18 + 4 * k2) 0) * (3600 : Int32) := by simp only [if_pos h1]
        rw [e0] at hJ
        exact hJ
      · refine fl_Tq.zt rfl (fl_bo rfl) (c1_ne_t h1) rfl ?_
        refine fl_Tq.cI (c := (0 : Int32)) rfl (by decide +kernel) (fl_bo rfl) ?_
        have e0 : (if x.toInt = 0 then (f (18 + 4 * k2) 0) * (3600 : Int32) else (0 : Int32)) = (0 : Int32) := by simp only [if_neg h1]
        rw [e0] at hJ
        exact hJ
    refine hj169 ?_
    show fl_Tq _ 49 36 [some (.inr (.inr (.inl (1, 1)))), some (.inl x), some (.inl (Int32.ofNat k2))] [.inl (if x.toInt = 0 then (f (18 + 4 * k2) 0) * (3600 : Int32) else (0 : Int32)), .inl (f (18 + 4 * k2) 2)] (f, l) _
    by_cases h2 : (f (18 + 4 * k2) 2).toInt = (if x.toInt = 0 then (f (18 + 4 * k2) 0) * (3600 : Int32) else (0 : Int32)).toInt
    · refine fl_Tq.jf rfl (fl_bo rfl) (c2_ne_f h2) rfl ?_
      refine fl_Tq.cI (c := (1 : Int32)) rfl (by decide +kernel) (fl_bo rfl) ?_
      have ee : c0_hasEnded_e2 f x (k2 + 1) = some (1 : Int32) := by
        unfold c0_hasEnded_e2
        rw [he]
        simp only [if_pos h2]
      have en : c0_hasEnded_e2 f x ((f 1 5).toInt.toNat) = some (1 : Int32) := t2_Em hm2 ee (by omega)
      refine fl_Tq.ret rfl rfl rfl ?_
      unfold c0_hasEnded_v at k
      simp only [en] at k
      exact k
    · refine fl_Tq.jt rfl (fl_bo rfl) (c2_ne_t h2) rfl ?_
      refine fl_Tq.stp (pc' := 44) (lv' := [some (.inr (.inr (.inl (1, 1)))), some (.inl x), some (.inl ((Int32.ofNat k2) + (1 : Int32)))]) (st' := []) (m' := (f, l)) rfl rfl (fl_bo rfl) rfl ?_
      refine fl_Tq.stp (pc' := 2) (lv' := [some (.inr (.inr (.inl (1, 1)))), some (.inl x), some (.inl ((Int32.ofNat k2) + (1 : Int32)))]) (st' := []) (m' := (f, l)) rfl rfl (fl_bo rfl) rfl ?_
      have ee : c0_hasEnded_e2 f x (k2 + 1) = none := by
        unfold c0_hasEnded_e2
        rw [he]
        simp only [if_neg h2]
      have hS := hS ee
      rw [← t2_k1] at hS
      exact hS
  refine t2_forE (E := c0_hasEnded_e2 f x) (S := fun k2 => fl_Tq (pw_P L xs) 49 2 [some (.inr (.inr (.inl (1, 1)))), some (.inl x), some (.inl (Int32.ofNat k2))] [] (f, l) Q) hs2 rfl (fun en2 => ?_)
  show fl_Tq (pw_P L xs) 49 2 [some (.inr (.inr (.inl (1, 1)))), some (.inl x), some (.inl (Int32.ofNat ((f 1 5).toInt.toNat)))] [] (f, l) _
  refine fl_Tq.stp (pc' := 3) (lv' := [some (.inr (.inr (.inl (1, 1)))), some (.inl x), some (.inl (Int32.ofNat ((f 1 5).toInt.toNat)))]) (st' := [.inl (Int32.ofNat ((f 1 5).toInt.toNat))]) (m' := (f, l)) rfl rfl (fl_bo rfl) rfl ?_
  refine fl_Tq.stp (pc' := 4) (lv' := [some (.inr (.inr (.inl (1, 1)))), some (.inl x), some (.inl (Int32.ofNat ((f 1 5).toInt.toNat)))]) (st' := [.inr (.inr (.inl (1, 1))), .inl (Int32.ofNat ((f 1 5).toInt.toNat))]) (m' := (f, l)) rfl rfl (fl_bo rfl) rfl ?_
  refine fl_Tq.gfV (k := 5) (v := f 1 5) rfl (fl_bo rfl) rfl rfl ?_
  refine fl_Tq.jt rfl (fl_bo rfl) (c2_ge_t (t2_ln (t2_nn hc.1))) rfl ?_
  refine fl_Tq.cI (c := (0 : Int32)) rfl (by decide +kernel) (fl_bo rfl) ?_
  refine fl_Tq.ret rfl rfl rfl ?_
  unfold c0_hasEnded_v at k
  simp only [en2] at k
  exact k
noncomputable def c0_placeOf_a15 (f : t2_F) (x : Int32) : Nat → Int32
  | 0 => (0 : Int32)
  | k15 + 1 => (c0_placeOf_a15 f x k15) + (if (if (f (18 + 4 * k15) 3).toInt = (f (18 + 4 * x.toInt.toNat) 3).toInt then (if (Int32.ofNat k15).toInt < x.toInt then (1 : Int32) else (0 : Int32)) else (0 : Int32)).toInt = 0 then (if (f (18 + 4 * x.toInt.toNat) 3).toInt < (f (18 + 4 * k15) 3).toInt then (1 : Int32) else (0 : Int32)) else (1 : Int32))
noncomputable def c0_placeOf_v (f : t2_F) (x : Int32) : Int32 := c0_placeOf_a15 f x ((f 1 5).toInt.toNat)
theorem c0_placeOf_q {L : Nat} {xs : Nat → Int32} {f : t2_F} {l : t2_L} {Q : Option fl_V → fl_M → Prop} {x : Int32} (hc : 0 ≤ (f 1 5).toInt ∧ (f 1 5).toInt ≤ 16) (hx : 0 ≤ x.toInt ∧ x.toInt < 16) (k : Q (some (.inl (c0_placeOf_v f x))) (f, l)) : fl_Tq (pw_P L xs) 47 0 (fl_args (am_mxl (pw_P L xs) 47) [.inr (.inr (.inl (1, 1))), .inl x]) [] (f, l) Q := by
  refine fl_Tq.cI (c := (0 : Int32)) rfl (by decide +kernel) (fl_bo rfl) ?_
  refine fl_Tq.stp (pc' := 2) (lv' := [some (.inr (.inr (.inl (1, 1)))), some (.inl x), some (.inl (0 : Int32)), none, none, none]) (st' := []) (m' := (f, l)) rfl rfl (fl_bo rfl) rfl ?_
  refine fl_Tq.stp (pc' := 3) (lv' := [some (.inr (.inr (.inl (1, 1)))), some (.inl x), some (.inl (0 : Int32)), none, none, none]) (st' := [.inr (.inr (.inl (1, 1)))]) (m' := (f, l)) rfl rfl (fl_bo rfl) rfl ?_
  refine fl_Tq.stp (pc' := 6) (lv' := [some (.inr (.inr (.inl (1, 1)))), some (.inl x), some (.inl (0 : Int32)), none, none, none]) (st' := [.inr (.inr (.inl (2, 2)))]) (m' := (f, l)) rfl rfl (fl_bo rfl) rfl ?_
  refine fl_Tq.stp (pc' := 7) (lv' := [some (.inr (.inr (.inl (1, 1)))), some (.inl x), some (.inl (0 : Int32)), none, none, none]) (st' := [.inl x, .inr (.inr (.inl (2, 2)))]) (m' := (f, l)) rfl rfl (fl_bo rfl) rfl ?_
  refine fl_Tq.qld (p := 2) (τ := 2) (n := 16) (t := 18) (b := 16) (d := 3) (k := x.toInt.toNat) rfl (fl_bo rfl) rfl (t2_nn hx.1) (by omega) ?_
  show fl_Tq _ 47 8 [some (.inr (.inr (.inl (1, 1)))), some (.inl x), some (.inl (0 : Int32)), none, none, none] [.inr (.inr (.inl (18, 18 + 4 * x.toInt.toNat)))] (f, l) _
  refine fl_Tq.gfV (k := 3) (v := f (18 + 4 * x.toInt.toNat) 3) rfl (fl_oks_ok ⟨(t2_kc0 (by omega)), True.intro⟩) rfl rfl ?_
  refine fl_Tq.stp (pc' := 12) (lv' := [some (.inr (.inr (.inl (1, 1)))), some (.inl x), some (.inl (0 : Int32)), some (.inl (f (18 + 4 * x.toInt.toNat) 3)), none, none]) (st' := []) (m' := (f, l)) rfl rfl (fl_bo rfl) rfl ?_
  refine fl_Tq.cI (c := (0 : Int32)) rfl (by decide +kernel) (fl_bo rfl) ?_
  refine fl_Tq.stp (pc' := 15) (lv' := [some (.inr (.inr (.inl (1, 1)))), some (.inl x), some (.inl (0 : Int32)), some (.inl (f (18 + 4 * x.toInt.toNat) 3)), some (.inl (0 : Int32)), none]) (st' := []) (m' := (f, l)) rfl rfl (fl_bo rfl) rfl ?_
  have hs15 : ∀ k15 : Nat, k15 < (f 1 5).toInt.toNat → fl_Tq (pw_P L xs) 47 15 [some (.inr (.inr (.inl (1, 1)))), some (.inl x), some (.inl (c0_placeOf_a15 f x (k15 + 1))), some (.inl (f (18 + 4 * x.toInt.toNat) 3)), some (.inl (Int32.ofNat (k15 + 1))), none] [] (f, l) Q → fl_Tq (pw_P L xs) 47 15 [some (.inr (.inr (.inl (1, 1)))), some (.inl x), some (.inl (c0_placeOf_a15 f x k15)), some (.inl (f (18 + 4 * x.toInt.toNat) 3)), some (.inl (Int32.ofNat k15)), none] [] (f, l) Q := by
    intro k15 hk15 hS
    refine fl_Tq.stp (pc' := 17) (lv' := [some (.inr (.inr (.inl (1, 1)))), some (.inl x), some (.inl (c0_placeOf_a15 f x k15)), some (.inl (f (18 + 4 * x.toInt.toNat) 3)), some (.inl (Int32.ofNat k15)), none]) (st' := [.inl (Int32.ofNat k15)]) (m' := (f, l)) rfl rfl (fl_bo rfl) rfl ?_
    refine fl_Tq.stp (pc' := 18) (lv' := [some (.inr (.inr (.inl (1, 1)))), some (.inl x), some (.inl (c0_placeOf_a15 f x k15)), some (.inl (f (18 + 4 * x.toInt.toNat) 3)), some (.inl (Int32.ofNat k15)), none]) (st' := [.inr (.inr (.inl (1, 1))), .inl (Int32.ofNat k15)]) (m' := (f, l)) rfl rfl (fl_bo rfl) rfl ?_
    refine fl_Tq.gfV (k := 5) (v := f 1 5) rfl (fl_bo rfl) rfl rfl ?_
    refine fl_Tq.jf rfl (fl_bo rfl) (c2_ge_f (t2_lk hk15 (t2_nn hc.1))) rfl ?_
    refine fl_Tq.stp (pc' := 25) (lv' := [some (.inr (.inr (.inl (1, 1)))), some (.inl x), some (.inl (c0_placeOf_a15 f x k15)), some (.inl (f (18 + 4 * x.toInt.toNat) 3)), some (.inl (Int32.ofNat k15)), none]) (st' := [.inr (.inr (.inl (1, 1)))]) (m' := (f, l)) rfl rfl (fl_bo rfl) rfl ?_
    refine fl_Tq.stp (pc' := 28) (lv' := [some (.inr (.inr (.inl (1, 1)))), some (.inl x), some (.inl (c0_placeOf_a15 f x k15)), some (.inl (f (18 + 4 * x.toInt.toNat) 3)), some (.inl (Int32.ofNat k15)), none]) (st' := [.inr (.inr (.inl (2, 2)))]) (m' := (f, l)) rfl rfl (fl_bo rfl) rfl ?_
    refine fl_Tq.stp (pc' := 30) (lv' := [some (.inr (.inr (.inl (1, 1)))), some (.inl x), some (.inl (c0_placeOf_a15 f x k15)), some (.inl (f (18 + 4 * x.toInt.toNat) 3)), some (.inl (Int32.ofNat k15)), none]) (st' := [.inl (Int32.ofNat k15), .inr (.inr (.inl (2, 2)))]) (m' := (f, l)) rfl rfl (fl_bo rfl) rfl ?_
    refine fl_Tq.qld (p := 2) (τ := 2) (n := 16) (t := 18) (b := 16) (d := 3) (k := k15) rfl (fl_bo rfl) rfl (at_ofN (by omega)) (by omega) ?_
    show fl_Tq _ 47 31 [some (.inr (.inr (.inl (1, 1)))), some (.inl x), some (.inl (c0_placeOf_a15 f x k15)), some (.inl (f (18 + 4 * x.toInt.toNat) 3)), some (.inl (Int32.ofNat k15)), none] [.inr (.inr (.inl (18, 18 + 4 * k15)))] (f, l) _
    refine fl_Tq.gfV (k := 3) (v := f (18 + 4 * k15) 3) rfl (fl_oks_ok ⟨(t2_kc0 (by omega)), True.intro⟩) rfl rfl ?_
    refine fl_Tq.stp (pc' := 35) (lv' := [some (.inr (.inr (.inl (1, 1)))), some (.inl x), some (.inl (c0_placeOf_a15 f x k15)), some (.inl (f (18 + 4 * x.toInt.toNat) 3)), some (.inl (Int32.ofNat k15)), none]) (st' := [.inl (f (18 + 4 * x.toInt.toNat) 3), .inl (f (18 + 4 * k15) 3)]) (m' := (f, l)) rfl rfl (fl_bo rfl) rfl ?_
    have hj170 : fl_Tq (pw_P L xs) 47 49 [some (.inr (.inr (.inl (1, 1)))), some (.inl x), some (.inl (c0_placeOf_a15 f x k15)), some (.inl (f (18 + 4 * x.toInt.toNat) 3)), some (.inl (Int32.ofNat k15)), none] [.inl (if (f (18 + 4 * k15) 3).toInt = (f (18 + 4 * x.toInt.toNat) 3).toInt then (if (Int32.ofNat k15).toInt < x.toInt then (1 : Int32) else (0 : Int32)) else (0 : Int32))] (f, l) Q → fl_Tq (pw_P L xs) 47 35 [some (.inr (.inr (.inl (1, 1)))), some (.inl x), some (.inl (c0_placeOf_a15 f x k15)), some (.inl (f (18 + 4 * x.toInt.toNat) 3)), some (.inl (Int32.ofNat k15)), none] [.inl (f (18 + 4 * x.toInt.toNat) 3), .inl (f (18 + 4 * k15) 3)] (f, l) Q := by
      intro hJ
      by_cases h1 : (f (18 + 4 * k15) 3).toInt = (f (18 + 4 * x.toInt.toNat) 3).toInt
      · refine fl_Tq.jf rfl (fl_bo rfl) (c2_ne_f h1) rfl ?_
        refine fl_Tq.stp (pc' := 40) (lv' := [some (.inr (.inr (.inl (1, 1)))), some (.inl x), some (.inl (c0_placeOf_a15 f x k15)), some (.inl (f (18 + 4 * x.toInt.toNat) 3)), some (.inl (Int32.ofNat k15)), none]) (st' := [.inl (Int32.ofNat k15)]) (m' := (f, l)) rfl rfl (fl_bo rfl) rfl ?_
        refine fl_Tq.stp (pc' := 41) (lv' := [some (.inr (.inr (.inl (1, 1)))), some (.inl x), some (.inl (c0_placeOf_a15 f x k15)), some (.inl (f (18 + 4 * x.toInt.toNat) 3)), some (.inl (Int32.ofNat k15)), none]) (st' := [.inl x, .inl (Int32.ofNat k15)]) (m' := (f, l)) rfl rfl (fl_bo rfl) rfl ?_
        by_cases h2 : (Int32.ofNat k15).toInt < x.toInt
        · refine fl_Tq.jf rfl (fl_bo rfl) (c2_ge_f h2) rfl ?_
          refine fl_Tq.cI (c := (1 : Int32)) rfl (by decide +kernel) (fl_bo rfl) ?_
          refine fl_Tq.stp (pc' := 49) (lv' := [some (.inr (.inr (.inl (1, 1)))), some (.inl x), some (.inl (c0_placeOf_a15 f x k15)), some (.inl (f (18 + 4 * x.toInt.toNat) 3)), some (.inl (Int32.ofNat k15)), none]) (st' := [.inl (1 : Int32)]) (m' := (f, l)) rfl rfl (fl_bo rfl) rfl ?_
          have e0 : (if (f (18 + 4 * k15) 3).toInt = (f (18 + 4 * x.toInt.toNat) 3).toInt then (if (Int32.ofNat k15).toInt < x.toInt then (1 : Int32) else (0 : Int32)) else (0 : Int32)) = (1 : Int32) := by simp only [if_pos h1, if_pos h2]
          rw [e0] at hJ
          exact hJ
        · refine fl_Tq.jt rfl (fl_bo rfl) (c2_ge_t h2) rfl ?_
          refine fl_Tq.cI (c := (0 : Int32)) rfl (by decide +kernel) (fl_bo rfl) ?_
          have e0 : (if (f (18 + 4 * k15) 3).toInt = (f (18 + 4 * x.toInt.toNat) 3).toInt then (if (Int32.ofNat k15).toInt < x.toInt then (1 : Int32) else (0 : Int32)) else (0 : Int32)) = (0 : Int32) := by simp only [if_pos h1, if_neg h2]
          rw [e0] at hJ
          exact hJ
      · refine fl_Tq.jt rfl (fl_bo rfl) (c2_ne_t h1) rfl ?_
        refine fl_Tq.cI (c := (0 : Int32)) rfl (by decide +kernel) (fl_bo rfl) ?_
        have e0 : (if (f (18 + 4 * k15) 3).toInt = (f (18 + 4 * x.toInt.toNat) 3).toInt then (if (Int32.ofNat k15).toInt < x.toInt then (1 : Int32) else (0 : Int32)) else (0 : Int32)) = (0 : Int32) := by simp only [if_neg h1]
        rw [e0] at hJ
        exact hJ
    refine hj170 ?_
    show fl_Tq _ 47 49 [some (.inr (.inr (.inl (1, 1)))), some (.inl x), some (.inl (c0_placeOf_a15 f x k15)), some (.inl (f (18 + 4 * x.toInt.toNat) 3)), some (.inl (Int32.ofNat k15)), none] [.inl (if (f (18 + 4 * k15) 3).toInt = (f (18 + 4 * x.toInt.toNat) 3).toInt then (if (Int32.ofNat k15).toInt < x.toInt then (1 : Int32) else (0 : Int32)) else (0 : Int32))] (f, l) _
    refine fl_Tq.stp (pc' := 51) (lv' := [some (.inr (.inr (.inl (1, 1)))), some (.inl x), some (.inl (c0_placeOf_a15 f x k15)), some (.inl (f (18 + 4 * x.toInt.toNat) 3)), some (.inl (Int32.ofNat k15)), some (.inl (if (f (18 + 4 * k15) 3).toInt = (f (18 + 4 * x.toInt.toNat) 3).toInt then (if (Int32.ofNat k15).toInt < x.toInt then (1 : Int32) else (0 : Int32)) else (0 : Int32)))]) (st' := []) (m' := (f, l)) rfl rfl (fl_bo rfl) rfl ?_
    refine fl_Tq.stp (pc' := 52) (lv' := [some (.inr (.inr (.inl (1, 1)))), some (.inl x), some (.inl (c0_placeOf_a15 f x k15)), some (.inl (f (18 + 4 * x.toInt.toNat) 3)), some (.inl (Int32.ofNat k15)), some (.inl (if (f (18 + 4 * k15) 3).toInt = (f (18 + 4 * x.toInt.toNat) 3).toInt then (if (Int32.ofNat k15).toInt < x.toInt then (1 : Int32) else (0 : Int32)) else (0 : Int32)))]) (st' := [.inl (c0_placeOf_a15 f x k15)]) (m' := (f, l)) rfl rfl (fl_bo rfl) rfl ?_
    refine fl_Tq.stp (pc' := 54) (lv' := [some (.inr (.inr (.inl (1, 1)))), some (.inl x), some (.inl (c0_placeOf_a15 f x k15)), some (.inl (f (18 + 4 * x.toInt.toNat) 3)), some (.inl (Int32.ofNat k15)), some (.inl (if (f (18 + 4 * k15) 3).toInt = (f (18 + 4 * x.toInt.toNat) 3).toInt then (if (Int32.ofNat k15).toInt < x.toInt then (1 : Int32) else (0 : Int32)) else (0 : Int32)))]) (st' := [.inl (if (f (18 + 4 * k15) 3).toInt = (f (18 + 4 * x.toInt.toNat) 3).toInt then (if (Int32.ofNat k15).toInt < x.toInt then (1 : Int32) else (0 : Int32)) else (0 : Int32)), .inl (c0_placeOf_a15 f x k15)]) (m' := (f, l)) rfl rfl (fl_bo rfl) rfl ?_
    have hj171 : fl_Tq (pw_P L xs) 47 76 [some (.inr (.inr (.inl (1, 1)))), some (.inl x), some (.inl (c0_placeOf_a15 f x k15)), some (.inl (f (18 + 4 * x.toInt.toNat) 3)), some (.inl (Int32.ofNat k15)), some (.inl (if (f (18 + 4 * k15) 3).toInt = (f (18 + 4 * x.toInt.toNat) 3).toInt then (if (Int32.ofNat k15).toInt < x.toInt then (1 : Int32) else (0 : Int32)) else (0 : Int32)))] [.inl (if (if (f (18 + 4 * k15) 3).toInt = (f (18 + 4 * x.toInt.toNat) 3).toInt then (if (Int32.ofNat k15).toInt < x.toInt then (1 : Int32) else (0 : Int32)) else (0 : Int32)).toInt = 0 then (if (f (18 + 4 * x.toInt.toNat) 3).toInt < (f (18 + 4 * k15) 3).toInt then (1 : Int32) else (0 : Int32)) else (1 : Int32)), .inl (c0_placeOf_a15 f x k15)] (f, l) Q → fl_Tq (pw_P L xs) 47 54 [some (.inr (.inr (.inl (1, 1)))), some (.inl x), some (.inl (c0_placeOf_a15 f x k15)), some (.inl (f (18 + 4 * x.toInt.toNat) 3)), some (.inl (Int32.ofNat k15)), some (.inl (if (f (18 + 4 * k15) 3).toInt = (f (18 + 4 * x.toInt.toNat) 3).toInt then (if (Int32.ofNat k15).toInt < x.toInt then (1 : Int32) else (0 : Int32)) else (0 : Int32)))] [.inl (if (f (18 + 4 * k15) 3).toInt = (f (18 + 4 * x.toInt.toNat) 3).toInt then (if (Int32.ofNat k15).toInt < x.toInt then (1 : Int32) else (0 : Int32)) else (0 : Int32)), .inl (c0_placeOf_a15 f x k15)] (f, l) Q := by
      intro hJ
      by_cases h3 : (if (f (18 + 4 * k15) 3).toInt = (f (18 + 4 * x.toInt.toNat) 3).toInt then (if (Int32.ofNat k15).toInt < x.toInt then (1 : Int32) else (0 : Int32)) else (0 : Int32)).toInt = 0
      · refine fl_Tq.zf rfl (fl_bo rfl) (c1_ne_f h3) rfl ?_
        refine fl_Tq.stp (pc' := 58) (lv' := [some (.inr (.inr (.inl (1, 1)))), some (.inl x), some (.inl (c0_placeOf_a15 f x k15)), some (.inl (f (18 + 4 * x.toInt.toNat) 3)), some (.inl (Int32.ofNat k15)), some (.inl (if (f (18 + 4 * k15) 3).toInt = (f (18 + 4 * x.toInt.toNat) 3).toInt then (if (Int32.ofNat k15).toInt < x.toInt then (1 : Int32) else (0 : Int32)) else (0 : Int32)))]) (st' := [.inr (.inr (.inl (1, 1))), .inl (c0_placeOf_a15 f x k15)]) (m' := (f, l)) rfl rfl (fl_bo rfl) rfl ?_
        refine fl_Tq.stp (pc' := 61) (lv' := [some (.inr (.inr (.inl (1, 1)))), some (.inl x), some (.inl (c0_placeOf_a15 f x k15)), some (.inl (f (18 + 4 * x.toInt.toNat) 3)), some (.inl (Int32.ofNat k15)), some (.inl (if (f (18 + 4 * k15) 3).toInt = (f (18 + 4 * x.toInt.toNat) 3).toInt then (if (Int32.ofNat k15).toInt < x.toInt then (1 : Int32) else (0 : Int32)) else (0 : Int32)))]) (st' := [.inr (.inr (.inl (2, 2))), .inl (c0_placeOf_a15 f x k15)]) (m' := (f, l)) rfl rfl (fl_bo rfl) rfl ?_
        refine fl_Tq.stp (pc' := 63) (lv' := [some (.inr (.inr (.inl (1, 1)))), some (.inl x), some (.inl (c0_placeOf_a15 f x k15)), some (.inl (f (18 + 4 * x.toInt.toNat) 3)), some (.inl (Int32.ofNat k15)), some (.inl (if (f (18 + 4 * k15) 3).toInt = (f (18 + 4 * x.toInt.toNat) 3).toInt then (if (Int32.ofNat k15).toInt < x.toInt then (1 : Int32) else (0 : Int32)) else (0 : Int32)))]) (st' := [.inl (Int32.ofNat k15), .inr (.inr (.inl (2, 2))), .inl (c0_placeOf_a15 f x k15)]) (m' := (f, l)) rfl rfl (fl_bo rfl) rfl ?_
        refine fl_Tq.qld (p := 2) (τ := 2) (n := 16) (t := 18) (b := 16) (d := 3) (k := k15) rfl (fl_bo rfl) rfl (at_ofN (by omega)) (by omega) ?_
        show fl_Tq _ 47 64 [some (.inr (.inr (.inl (1, 1)))), some (.inl x), some (.inl (c0_placeOf_a15 f x k15)), some (.inl (f (18 + 4 * x.toInt.toNat) 3)), some (.inl (Int32.ofNat k15)), some (.inl (if (f (18 + 4 * k15) 3).toInt = (f (18 + 4 * x.toInt.toNat) 3).toInt then (if (Int32.ofNat k15).toInt < x.toInt then (1 : Int32) else (0 : Int32)) else (0 : Int32)))] [.inr (.inr (.inl (18, 18 + 4 * k15))), .inl (c0_placeOf_a15 f x k15)] (f, l) _
        refine fl_Tq.gfV (k := 3) (v := f (18 + 4 * k15) 3) rfl (fl_oks_ok ⟨(t2_kc0 (by omega)), True.intro, True.intro⟩) rfl rfl ?_
        refine fl_Tq.stp (pc' := 68) (lv' := [some (.inr (.inr (.inl (1, 1)))), some (.inl x), some (.inl (c0_placeOf_a15 f x k15)), some (.inl (f (18 + 4 * x.toInt.toNat) 3)), some (.inl (Int32.ofNat k15)), some (.inl (if (f (18 + 4 * k15) 3).toInt = (f (18 + 4 * x.toInt.toNat) 3).toInt then (if (Int32.ofNat k15).toInt < x.toInt then (1 : Int32) else (0 : Int32)) else (0 : Int32)))]) (st' := [.inl (f (18 + 4 * x.toInt.toNat) 3), .inl (f (18 + 4 * k15) 3), .inl (c0_placeOf_a15 f x k15)]) (m' := (f, l)) rfl rfl (fl_bo rfl) rfl ?_
        by_cases h4 : (f (18 + 4 * x.toInt.toNat) 3).toInt < (f (18 + 4 * k15) 3).toInt
        · refine fl_Tq.jf rfl (fl_bo rfl) (c2_le_f h4) rfl ?_
          refine fl_Tq.cI (c := (1 : Int32)) rfl (by decide +kernel) (fl_bo rfl) ?_
          refine fl_Tq.stp (pc' := 76) (lv' := [some (.inr (.inr (.inl (1, 1)))), some (.inl x), some (.inl (c0_placeOf_a15 f x k15)), some (.inl (f (18 + 4 * x.toInt.toNat) 3)), some (.inl (Int32.ofNat k15)), some (.inl (if (f (18 + 4 * k15) 3).toInt = (f (18 + 4 * x.toInt.toNat) 3).toInt then (if (Int32.ofNat k15).toInt < x.toInt then (1 : Int32) else (0 : Int32)) else (0 : Int32)))]) (st' := [.inl (1 : Int32), .inl (c0_placeOf_a15 f x k15)]) (m' := (f, l)) rfl rfl (fl_bo rfl) rfl ?_
          have e0 : (if (if (f (18 + 4 * k15) 3).toInt = (f (18 + 4 * x.toInt.toNat) 3).toInt then (if (Int32.ofNat k15).toInt < x.toInt then (1 : Int32) else (0 : Int32)) else (0 : Int32)).toInt = 0 then (if (f (18 + 4 * x.toInt.toNat) 3).toInt < (f (18 + 4 * k15) 3).toInt then (1 : Int32) else (0 : Int32)) else (1 : Int32)) = (1 : Int32) := by simp only [if_pos h3, if_pos h4]
          rw [e0] at hJ
          exact hJ
        · refine fl_Tq.jt rfl (fl_bo rfl) (c2_le_t h4) rfl ?_
          refine fl_Tq.cI (c := (0 : Int32)) rfl (by decide +kernel) (fl_bo rfl) ?_
          have e0 : (if (if (f (18 + 4 * k15) 3).toInt = (f (18 + 4 * x.toInt.toNat) 3).toInt then (if (Int32.ofNat k15).toInt < x.toInt then (1 : Int32) else (0 : Int32)) else (0 : Int32)).toInt = 0 then (if (f (18 + 4 * x.toInt.toNat) 3).toInt < (f (18 + 4 * k15) 3).toInt then (1 : Int32) else (0 : Int32)) else (1 : Int32)) = (0 : Int32) := by simp only [if_pos h3, if_neg h4]
          rw [e0] at hJ
          exact hJ
      · refine fl_Tq.zt rfl (fl_bo rfl) (c1_ne_t h3) rfl ?_
        refine fl_Tq.cI (c := (1 : Int32)) rfl (by decide +kernel) (fl_bo rfl) ?_
        refine fl_Tq.stp (pc' := 76) (lv' := [some (.inr (.inr (.inl (1, 1)))), some (.inl x), some (.inl (c0_placeOf_a15 f x k15)), some (.inl (f (18 + 4 * x.toInt.toNat) 3)), some (.inl (Int32.ofNat k15)), some (.inl (if (f (18 + 4 * k15) 3).toInt = (f (18 + 4 * x.toInt.toNat) 3).toInt then (if (Int32.ofNat k15).toInt < x.toInt then (1 : Int32) else (0 : Int32)) else (0 : Int32)))]) (st' := [.inl (1 : Int32), .inl (c0_placeOf_a15 f x k15)]) (m' := (f, l)) rfl rfl (fl_bo rfl) rfl ?_
        have e0 : (if (if (f (18 + 4 * k15) 3).toInt = (f (18 + 4 * x.toInt.toNat) 3).toInt then (if (Int32.ofNat k15).toInt < x.toInt then (1 : Int32) else (0 : Int32)) else (0 : Int32)).toInt = 0 then (if (f (18 + 4 * x.toInt.toNat) 3).toInt < (f (18 + 4 * k15) 3).toInt then (1 : Int32) else (0 : Int32)) else (1 : Int32)) = (1 : Int32) := by simp only [if_neg h3]
        rw [e0] at hJ
        exact hJ
    refine hj171 ?_
    show fl_Tq _ 47 76 [some (.inr (.inr (.inl (1, 1)))), some (.inl x), some (.inl (c0_placeOf_a15 f x k15)), some (.inl (f (18 + 4 * x.toInt.toNat) 3)), some (.inl (Int32.ofNat k15)), some (.inl (if (f (18 + 4 * k15) 3).toInt = (f (18 + 4 * x.toInt.toNat) 3).toInt then (if (Int32.ofNat k15).toInt < x.toInt then (1 : Int32) else (0 : Int32)) else (0 : Int32)))] [.inl (if (if (f (18 + 4 * k15) 3).toInt = (f (18 + 4 * x.toInt.toNat) 3).toInt then (if (Int32.ofNat k15).toInt < x.toInt then (1 : Int32) else (0 : Int32)) else (0 : Int32)).toInt = 0 then (if (f (18 + 4 * x.toInt.toNat) 3).toInt < (f (18 + 4 * k15) 3).toInt then (1 : Int32) else (0 : Int32)) else (1 : Int32)), .inl (c0_placeOf_a15 f x k15)] (f, l) _
    refine fl_Tq.stp (pc' := 77) (lv' := [some (.inr (.inr (.inl (1, 1)))), some (.inl x), some (.inl (c0_placeOf_a15 f x k15)), some (.inl (f (18 + 4 * x.toInt.toNat) 3)), some (.inl (Int32.ofNat k15)), some (.inl (if (f (18 + 4 * k15) 3).toInt = (f (18 + 4 * x.toInt.toNat) 3).toInt then (if (Int32.ofNat k15).toInt < x.toInt then (1 : Int32) else (0 : Int32)) else (0 : Int32)))]) (st' := [.inl ((c0_placeOf_a15 f x k15) + (if (if (f (18 + 4 * k15) 3).toInt = (f (18 + 4 * x.toInt.toNat) 3).toInt then (if (Int32.ofNat k15).toInt < x.toInt then (1 : Int32) else (0 : Int32)) else (0 : Int32)).toInt = 0 then (if (f (18 + 4 * x.toInt.toNat) 3).toInt < (f (18 + 4 * k15) 3).toInt then (1 : Int32) else (0 : Int32)) else (1 : Int32)))]) (m' := (f, l)) rfl rfl (fl_bo rfl) rfl ?_
    refine fl_Tq.stp (pc' := 78) (lv' := [some (.inr (.inr (.inl (1, 1)))), some (.inl x), some (.inl ((c0_placeOf_a15 f x k15) + (if (if (f (18 + 4 * k15) 3).toInt = (f (18 + 4 * x.toInt.toNat) 3).toInt then (if (Int32.ofNat k15).toInt < x.toInt then (1 : Int32) else (0 : Int32)) else (0 : Int32)).toInt = 0 then (if (f (18 + 4 * x.toInt.toNat) 3).toInt < (f (18 + 4 * k15) 3).toInt then (1 : Int32) else (0 : Int32)) else (1 : Int32)))), some (.inl (f (18 + 4 * x.toInt.toNat) 3)), some (.inl (Int32.ofNat k15)), some (.inl (if (f (18 + 4 * k15) 3).toInt = (f (18 + 4 * x.toInt.toNat) 3).toInt then (if (Int32.ofNat k15).toInt < x.toInt then (1 : Int32) else (0 : Int32)) else (0 : Int32)))]) (st' := []) (m' := (f, l)) rfl rfl (fl_bo rfl) rfl ?_
    refine fl_Tq.stp (pc' := 81) (lv' := [some (.inr (.inr (.inl (1, 1)))), some (.inl x), some (.inl ((c0_placeOf_a15 f x k15) + (if (if (f (18 + 4 * k15) 3).toInt = (f (18 + 4 * x.toInt.toNat) 3).toInt then (if (Int32.ofNat k15).toInt < x.toInt then (1 : Int32) else (0 : Int32)) else (0 : Int32)).toInt = 0 then (if (f (18 + 4 * x.toInt.toNat) 3).toInt < (f (18 + 4 * k15) 3).toInt then (1 : Int32) else (0 : Int32)) else (1 : Int32)))), some (.inl (f (18 + 4 * x.toInt.toNat) 3)), some (.inl ((Int32.ofNat k15) + (1 : Int32))), some (.inl (if (f (18 + 4 * k15) 3).toInt = (f (18 + 4 * x.toInt.toNat) 3).toInt then (if (Int32.ofNat k15).toInt < x.toInt then (1 : Int32) else (0 : Int32)) else (0 : Int32)))]) (st' := []) (m' := (f, l)) rfl rfl (fl_bo rfl) rfl ?_
    refine fl_Tq.stp (pc' := 15) (lv' := [some (.inr (.inr (.inl (1, 1)))), some (.inl x), some (.inl ((c0_placeOf_a15 f x k15) + (if (if (f (18 + 4 * k15) 3).toInt = (f (18 + 4 * x.toInt.toNat) 3).toInt then (if (Int32.ofNat k15).toInt < x.toInt then (1 : Int32) else (0 : Int32)) else (0 : Int32)).toInt = 0 then (if (f (18 + 4 * x.toInt.toNat) 3).toInt < (f (18 + 4 * k15) 3).toInt then (1 : Int32) else (0 : Int32)) else (1 : Int32)))), some (.inl (f (18 + 4 * x.toInt.toNat) 3)), some (.inl ((Int32.ofNat k15) + (1 : Int32))), some (.inl (if (f (18 + 4 * k15) 3).toInt = (f (18 + 4 * x.toInt.toNat) 3).toInt then (if (Int32.ofNat k15).toInt < x.toInt then (1 : Int32) else (0 : Int32)) else (0 : Int32)))]) (st' := []) (m' := (f, l)) rfl rfl (fl_bo rfl) rfl ?_
    have ea : c0_placeOf_a15 f x (k15 + 1) = (c0_placeOf_a15 f x k15) + (if (if (f (18 + 4 * k15) 3).toInt = (f (18 + 4 * x.toInt.toNat) 3).toInt then (if (Int32.ofNat k15).toInt < x.toInt then (1 : Int32) else (0 : Int32)) else (0 : Int32)).toInt = 0 then (if (f (18 + 4 * x.toInt.toNat) 3).toInt < (f (18 + 4 * k15) 3).toInt then (1 : Int32) else (0 : Int32)) else (1 : Int32)) := by
      show ((c0_placeOf_a15 f x k15) + (if (if (f (18 + 4 * k15) 3).toInt = (f (18 + 4 * x.toInt.toNat) 3).toInt then (if (Int32.ofNat k15).toInt < x.toInt then (1 : Int32) else (0 : Int32)) else (0 : Int32)).toInt = 0 then (if (f (18 + 4 * x.toInt.toNat) 3).toInt < (f (18 + 4 * k15) 3).toInt then (1 : Int32) else (0 : Int32)) else (1 : Int32))) = _
      rfl
    rw [ea, ← t2_k1] at hS
    exact fl_Tq.fg hS ⟨rfl, rfl, rfl, rfl, rfl, True.intro⟩
  refine t2_for (S := fun k15 => fl_Tq (pw_P L xs) 47 15 [some (.inr (.inr (.inl (1, 1)))), some (.inl x), some (.inl (c0_placeOf_a15 f x k15)), some (.inl (f (18 + 4 * x.toInt.toNat) 3)), some (.inl (Int32.ofNat k15)), none] [] (f, l) Q) hs15 ?_
  show fl_Tq (pw_P L xs) 47 15 [some (.inr (.inr (.inl (1, 1)))), some (.inl x), some (.inl (c0_placeOf_a15 f x ((f 1 5).toInt.toNat))), some (.inl (f (18 + 4 * x.toInt.toNat) 3)), some (.inl (Int32.ofNat ((f 1 5).toInt.toNat))), none] [] (f, l) _
  refine fl_Tq.stp (pc' := 17) (lv' := [some (.inr (.inr (.inl (1, 1)))), some (.inl x), some (.inl (c0_placeOf_a15 f x ((f 1 5).toInt.toNat))), some (.inl (f (18 + 4 * x.toInt.toNat) 3)), some (.inl (Int32.ofNat ((f 1 5).toInt.toNat))), none]) (st' := [.inl (Int32.ofNat ((f 1 5).toInt.toNat))]) (m' := (f, l)) rfl rfl (fl_bo rfl) rfl ?_
  refine fl_Tq.stp (pc' := 18) (lv' := [some (.inr (.inr (.inl (1, 1)))), some (.inl x), some (.inl (c0_placeOf_a15 f x ((f 1 5).toInt.toNat))), some (.inl (f (18 + 4 * x.toInt.toNat) 3)), some (.inl (Int32.ofNat ((f 1 5).toInt.toNat))), none]) (st' := [.inr (.inr (.inl (1, 1))), .inl (Int32.ofNat ((f 1 5).toInt.toNat))]) (m' := (f, l)) rfl rfl (fl_bo rfl) rfl ?_
  refine fl_Tq.gfV (k := 5) (v := f 1 5) rfl (fl_bo rfl) rfl rfl ?_
  refine fl_Tq.jt rfl (fl_bo rfl) (c2_ge_t (t2_ln (t2_nn hc.1))) rfl ?_
  refine fl_Tq.stp (pc' := 85) (lv' := [some (.inr (.inr (.inl (1, 1)))), some (.inl x), some (.inl (c0_placeOf_a15 f x ((f 1 5).toInt.toNat))), some (.inl (f (18 + 4 * x.toInt.toNat) 3)), some (.inl (Int32.ofNat ((f 1 5).toInt.toNat))), none]) (st' := [.inl (c0_placeOf_a15 f x ((f 1 5).toInt.toNat))]) (m' := (f, l)) rfl rfl (fl_bo rfl) rfl ?_
  exact fl_Tq.ret rfl rfl rfl k
noncomputable def c0_rankedCell_e2 (f : t2_F) (x : Int32) : Nat → Option Int32
  | 0 => none
  | k2 + 1 => match c0_rankedCell_e2 f x k2 with
    | some r => some r
    | none => if (c0_placeOf_v f (Int32.ofNat k2)).toInt = x.toInt then some (Int32.ofNat k2) else none
noncomputable def c0_rankedCell_v (f : t2_F) (x : Int32) : Int32 := match c0_rankedCell_e2 f x ((f 1 5).toInt.toNat) with | some r => r | none => (-1 : Int32)
theorem c0_rankedCell_q {L : Nat} {xs : Nat → Int32} {f : t2_F} {l : t2_L} {Q : Option fl_V → fl_M → Prop} {x : Int32} (hc : 0 ≤ (f 1 5).toInt ∧ (f 1 5).toInt ≤ 16) (k : Q (some (.inl (c0_rankedCell_v f x))) (f, l)) : fl_Tq (pw_P L xs) 46 0 (fl_args (am_mxl (pw_P L xs) 46) [.inr (.inr (.inl (1, 1))), .inl x]) [] (f, l) Q := by
  refine fl_Tq.cI (c := (0 : Int32)) rfl (by decide +kernel) (fl_bo rfl) ?_
  refine fl_Tq.stp (pc' := 2) (lv' := [some (.inr (.inr (.inl (1, 1)))), some (.inl x), some (.inl (0 : Int32))]) (st' := []) (m' := (f, l)) rfl rfl (fl_bo rfl) rfl ?_
  have hm2 : ∀ (k : Nat) (r : Int32), c0_rankedCell_e2 f x k = some r → c0_rankedCell_e2 f x (k + 1) = some r := fun k r e => by
    unfold c0_rankedCell_e2
    rw [e]
  have hs2 : ∀ k2 : Nat, k2 < (f 1 5).toInt.toNat → c0_rankedCell_e2 f x k2 = none → (c0_rankedCell_e2 f x (k2 + 1) = none → fl_Tq (pw_P L xs) 46 2 [some (.inr (.inr (.inl (1, 1)))), some (.inl x), some (.inl (Int32.ofNat (k2 + 1)))] [] (f, l) Q) → fl_Tq (pw_P L xs) 46 2 [some (.inr (.inr (.inl (1, 1)))), some (.inl x), some (.inl (Int32.ofNat k2))] [] (f, l) Q := by
    intro k2 hk2 he hS
    refine fl_Tq.stp (pc' := 3) (lv' := [some (.inr (.inr (.inl (1, 1)))), some (.inl x), some (.inl (Int32.ofNat k2))]) (st' := [.inl (Int32.ofNat k2)]) (m' := (f, l)) rfl rfl (fl_bo rfl) rfl ?_
    refine fl_Tq.stp (pc' := 4) (lv' := [some (.inr (.inr (.inl (1, 1)))), some (.inl x), some (.inl (Int32.ofNat k2))]) (st' := [.inr (.inr (.inl (1, 1))), .inl (Int32.ofNat k2)]) (m' := (f, l)) rfl rfl (fl_bo rfl) rfl ?_
    refine fl_Tq.gfV (k := 5) (v := f 1 5) rfl (fl_bo rfl) rfl rfl ?_
    refine fl_Tq.jf rfl (fl_bo rfl) (c2_ge_f (t2_lk hk2 (t2_nn hc.1))) rfl ?_
    refine fl_Tq.stp (pc' := 11) (lv' := [some (.inr (.inr (.inl (1, 1)))), some (.inl x), some (.inl (Int32.ofNat k2))]) (st' := [.inr (.inr (.inl (1, 1)))]) (m' := (f, l)) rfl rfl (fl_bo rfl) rfl ?_
    refine fl_Tq.stp (pc' := 12) (lv' := [some (.inr (.inr (.inl (1, 1)))), some (.inl x), some (.inl (Int32.ofNat k2))]) (st' := [.inl (Int32.ofNat k2), .inr (.inr (.inl (1, 1)))]) (m' := (f, l)) rfl rfl (fl_bo rfl) rfl ?_
    refine fl_Tq.cal rfl rfl (fl_bo rfl) rfl ?_
    refine c0_placeOf_q hc (by have e := at_ofN (k := k2) (by omega); omega) ?_
    show fl_Tq _ 46 15 [some (.inr (.inr (.inl (1, 1)))), some (.inl x), some (.inl (Int32.ofNat k2))] [.inl (c0_placeOf_v f (Int32.ofNat k2))] (f, l) _
    refine fl_Tq.stp (pc' := 16) (lv' := [some (.inr (.inr (.inl (1, 1)))), some (.inl x), some (.inl (Int32.ofNat k2))]) (st' := [.inl x, .inl (c0_placeOf_v f (Int32.ofNat k2))]) (m' := (f, l)) rfl rfl (fl_bo rfl) rfl ?_
    by_cases h1 : (c0_placeOf_v f (Int32.ofNat k2)).toInt = x.toInt
    · refine fl_Tq.jf rfl (fl_bo rfl) (c2_ne_f h1) rfl ?_
      refine fl_Tq.stp (pc' := 20) (lv' := [some (.inr (.inr (.inl (1, 1)))), some (.inl x), some (.inl (Int32.ofNat k2))]) (st' := [.inl (Int32.ofNat k2)]) (m' := (f, l)) rfl rfl (fl_bo rfl) rfl ?_
      have ee : c0_rankedCell_e2 f x (k2 + 1) = some (Int32.ofNat k2) := by
        unfold c0_rankedCell_e2
        rw [he]
        simp only [if_pos h1]
      have en : c0_rankedCell_e2 f x ((f 1 5).toInt.toNat) = some (Int32.ofNat k2) := t2_Em hm2 ee (by omega)
      refine fl_Tq.ret rfl rfl rfl ?_
      unfold c0_rankedCell_v at k
      simp only [en] at k
      exact k
    · refine fl_Tq.jt rfl (fl_bo rfl) (c2_ne_t h1) rfl ?_
      refine fl_Tq.stp (pc' := 24) (lv' := [some (.inr (.inr (.inl (1, 1)))), some (.inl x), some (.inl ((Int32.ofNat k2) + (1 : Int32)))]) (st' := []) (m' := (f, l)) rfl rfl (fl_bo rfl) rfl ?_
      refine fl_Tq.stp (pc' := 2) (lv' := [some (.inr (.inr (.inl (1, 1)))), some (.inl x), some (.inl ((Int32.ofNat k2) + (1 : Int32)))]) (st' := []) (m' := (f, l)) rfl rfl (fl_bo rfl) rfl ?_
      have ee : c0_rankedCell_e2 f x (k2 + 1) = none := by
        unfold c0_rankedCell_e2
        rw [he]
        simp only [if_neg h1]
      have hS := hS ee
      rw [← t2_k1] at hS
      exact hS
  refine t2_forE (E := c0_rankedCell_e2 f x) (S := fun k2 => fl_Tq (pw_P L xs) 46 2 [some (.inr (.inr (.inl (1, 1)))), some (.inl x), some (.inl (Int32.ofNat k2))] [] (f, l) Q) hs2 rfl (fun en2 => ?_)
  show fl_Tq (pw_P L xs) 46 2 [some (.inr (.inr (.inl (1, 1)))), some (.inl x), some (.inl (Int32.ofNat ((f 1 5).toInt.toNat)))] [] (f, l) _
  refine fl_Tq.stp (pc' := 3) (lv' := [some (.inr (.inr (.inl (1, 1)))), some (.inl x), some (.inl (Int32.ofNat ((f 1 5).toInt.toNat)))]) (st' := [.inl (Int32.ofNat ((f 1 5).toInt.toNat))]) (m' := (f, l)) rfl rfl (fl_bo rfl) rfl ?_
  refine fl_Tq.stp (pc' := 4) (lv' := [some (.inr (.inr (.inl (1, 1)))), some (.inl x), some (.inl (Int32.ofNat ((f 1 5).toInt.toNat)))]) (st' := [.inr (.inr (.inl (1, 1))), .inl (Int32.ofNat ((f 1 5).toInt.toNat))]) (m' := (f, l)) rfl rfl (fl_bo rfl) rfl ?_
  refine fl_Tq.gfV (k := 5) (v := f 1 5) rfl (fl_bo rfl) rfl rfl ?_
  refine fl_Tq.jt rfl (fl_bo rfl) (c2_ge_t (t2_ln (t2_nn hc.1))) rfl ?_
  refine fl_Tq.cI (c := (-1 : Int32)) rfl (by decide +kernel) (fl_bo rfl) ?_
  refine fl_Tq.ret rfl rfl rfl ?_
  unfold c0_rankedCell_v at k
  simp only [en2] at k
  exact k
noncomputable def c2_couldReset_v (f : t2_F) (x : Int32) : Int32 := if (t2_within_v x (0 : Int32) (10 : Int32)).toInt = 0 then (0 : Int32) else (if ((f 190 3) &&& ((1 : Int32) <<< (x &&& 31))).toInt = 0 then (0 : Int32) else (if (f 181 7).toInt = 0 then (if ((f 181 6) - (f 191 x.toInt.toNat)).toInt < (f 184 21).toInt then (0 : Int32) else (1 : Int32)) else (0 : Int32)))
theorem c2_couldReset_q {L : Nat} {xs : Nat → Int32} {f : t2_F} {l : t2_L} {Q : Option fl_V → fl_M → Prop} {x : Int32}  (k : Q (some (.inl (c2_couldReset_v f x))) (f, l)) : fl_Tq (pw_P L xs) 37 0 (fl_args (am_mxl (pw_P L xs) 37) [.inr (.inr (.inl (49, 181))), .inl x]) [] (f, l) Q := by
  refine fl_Tq.stp (pc' := 1) (lv' := [some (.inr (.inr (.inl (49, 181)))), some (.inl x)]) (st' := [.inl x]) (m' := (f, l)) rfl rfl (fl_bo rfl) rfl ?_
  refine fl_Tq.cI (c := (0 : Int32)) rfl (by decide +kernel) (fl_bo rfl) ?_
  refine fl_Tq.cB (c := (10 : Int32)) rfl (by decide +kernel) (fl_bo rfl) ?_
  refine fl_Tq.cal rfl rfl (fl_bo rfl) rfl ?_
  refine t2_within_q  ?_
  show fl_Tq _ 37 7 [some (.inr (.inr (.inl (49, 181)))), some (.inl x)] [.inl (t2_within_v x (0 : Int32) (10 : Int32))] (f, l) _
  by_cases h1 : (t2_within_v x (0 : Int32) (10 : Int32)).toInt = 0
  · refine fl_Tq.zt rfl (fl_bo rfl) (c1_eq_t h1) rfl ?_
    refine fl_Tq.cI (c := (0 : Int32)) rfl (by decide +kernel) (fl_bo rfl) ?_
    refine fl_Tq.ret rfl rfl rfl ?_
    unfold c2_couldReset_v at k
    simp only [if_pos h1] at k
    exact k
  · refine fl_Tq.zf rfl (fl_bo rfl) (c1_eq_f h1) rfl ?_
    refine fl_Tq.stp (pc' := 11) (lv' := [some (.inr (.inr (.inl (49, 181)))), some (.inl x)]) (st' := [.inr (.inr (.inl (49, 181)))]) (m' := (f, l)) rfl rfl (fl_bo rfl) rfl ?_
    refine fl_Tq.stp (pc' := 14) (lv' := [some (.inr (.inr (.inl (49, 181)))), some (.inl x)]) (st' := [.inr (.inr (.inl (58, 190)))]) (m' := (f, l)) rfl rfl (fl_bo rfl) rfl ?_
    refine fl_Tq.gfV (k := 3) (v := f 190 3) rfl (fl_bo rfl) rfl rfl ?_
    refine fl_Tq.cI (c := (1 : Int32)) rfl (by decide +kernel) (fl_bo rfl) ?_
    refine fl_Tq.stp (pc' := 19) (lv' := [some (.inr (.inr (.inl (49, 181)))), some (.inl x)]) (st' := [.inl x, .inl (1 : Int32), .inl (f 190 3)]) (m' := (f, l)) rfl rfl (fl_bo rfl) rfl ?_
    refine fl_Tq.stp (pc' := 20) (lv' := [some (.inr (.inr (.inl (49, 181)))), some (.inl x)]) (st' := [.inl ((1 : Int32) <<< (x &&& 31)), .inl (f 190 3)]) (m' := (f, l)) rfl rfl (fl_bo rfl) rfl ?_
    refine fl_Tq.stp (pc' := 21) (lv' := [some (.inr (.inr (.inl (49, 181)))), some (.inl x)]) (st' := [.inl ((f 190 3) &&& ((1 : Int32) <<< (x &&& 31)))]) (m' := (f, l)) rfl rfl (fl_bo rfl) rfl ?_
    by_cases h2 : ((f 190 3) &&& ((1 : Int32) <<< (x &&& 31))).toInt = 0
    · refine fl_Tq.zf rfl (fl_bo rfl) (c1_ne_f h2) rfl ?_
      refine fl_Tq.cI (c := (0 : Int32)) rfl (by decide +kernel) (fl_bo rfl) ?_
      refine fl_Tq.ret rfl rfl rfl ?_
      unfold c2_couldReset_v at k
      simp only [if_neg h1, if_pos h2] at k
      exact k
    · refine fl_Tq.zt rfl (fl_bo rfl) (c1_ne_t h2) rfl ?_
      refine fl_Tq.stp (pc' := 27) (lv' := [some (.inr (.inr (.inl (49, 181)))), some (.inl x)]) (st' := [.inr (.inr (.inl (49, 181)))]) (m' := (f, l)) rfl rfl (fl_bo rfl) rfl ?_
      refine fl_Tq.gfV (k := 7) (v := f 181 7) rfl (fl_bo rfl) rfl rfl ?_
      by_cases h3 : (f 181 7).toInt = 0
      · refine fl_Tq.zf rfl (fl_bo rfl) (c1_ne_f h3) rfl ?_
        refine fl_Tq.stp (pc' := 34) (lv' := [some (.inr (.inr (.inl (49, 181)))), some (.inl x)]) (st' := [.inr (.inr (.inl (49, 181)))]) (m' := (f, l)) rfl rfl (fl_bo rfl) rfl ?_
        refine fl_Tq.gfV (k := 6) (v := f 181 6) rfl (fl_bo rfl) rfl rfl ?_
        refine fl_Tq.stp (pc' := 38) (lv' := [some (.inr (.inr (.inl (49, 181)))), some (.inl x)]) (st' := [.inr (.inr (.inl (49, 181))), .inl (f 181 6)]) (m' := (f, l)) rfl rfl (fl_bo rfl) rfl ?_
        refine fl_Tq.stp (pc' := 41) (lv' := [some (.inr (.inr (.inl (49, 181)))), some (.inl x)]) (st' := [.inr (.inr (.inl (58, 190))), .inl (f 181 6)]) (m' := (f, l)) rfl rfl (fl_bo rfl) rfl ?_
        refine fl_Tq.stp (pc' := 44) (lv' := [some (.inr (.inr (.inl (49, 181)))), some (.inl x)]) (st' := [.inr (.inr (.inl (59, 191))), .inl (f 181 6)]) (m' := (f, l)) rfl rfl (fl_bo rfl) rfl ?_
        refine fl_Tq.stp (pc' := 45) (lv' := [some (.inr (.inr (.inl (49, 181)))), some (.inl x)]) (st' := [.inl x, .inr (.inr (.inl (59, 191))), .inl (f 181 6)]) (m' := (f, l)) rfl rfl (fl_bo rfl) rfl ?_
        refine fl_Tq.ldV (p := 191) (τ := 59) (n := 11) (z := (0, 0, 0)) (k := x.toInt.toNat) (v := f 191 x.toInt.toNat) rfl (fl_bo rfl) rfl (t2_nn (t2_win10 h1).1) (by have := t2_win10 h1; omega) rfl ?_
        refine fl_Tq.stp (pc' := 47) (lv' := [some (.inr (.inr (.inl (49, 181)))), some (.inl x)]) (st' := [.inl ((f 181 6) - (f 191 x.toInt.toNat))]) (m' := (f, l)) rfl rfl (fl_bo rfl) rfl ?_
        refine fl_Tq.stp (pc' := 48) (lv' := [some (.inr (.inr (.inl (49, 181)))), some (.inl x)]) (st' := [.inr (.inr (.inl (49, 181))), .inl ((f 181 6) - (f 191 x.toInt.toNat))]) (m' := (f, l)) rfl rfl (fl_bo rfl) rfl ?_
        refine fl_Tq.stp (pc' := 51) (lv' := [some (.inr (.inr (.inl (49, 181)))), some (.inl x)]) (st' := [.inr (.inr (.inl (51, 183))), .inl ((f 181 6) - (f 191 x.toInt.toNat))]) (m' := (f, l)) rfl rfl (fl_bo rfl) rfl ?_
        refine fl_Tq.stp (pc' := 54) (lv' := [some (.inr (.inr (.inl (49, 181)))), some (.inl x)]) (st' := [.inr (.inr (.inl (52, 184))), .inl ((f 181 6) - (f 191 x.toInt.toNat))]) (m' := (f, l)) rfl rfl (fl_bo rfl) rfl ?_
        refine fl_Tq.cB (c := (21 : Int32)) rfl (by decide +kernel) (fl_bo rfl) ?_
        refine fl_Tq.ldV (p := 184) (τ := 52) (n := 30) (z := (0, 0, 0)) (k := 21) (v := f 184 21) rfl (fl_bo rfl) rfl (by decide +kernel) (by decide) rfl ?_
        by_cases h4 : ((f 181 6) - (f 191 x.toInt.toNat)).toInt < (f 184 21).toInt
        · refine fl_Tq.jt rfl (fl_bo rfl) (c2_lt_t h4) rfl ?_
          refine fl_Tq.cI (c := (0 : Int32)) rfl (by decide +kernel) (fl_bo rfl) ?_
          refine fl_Tq.ret rfl rfl rfl ?_
          unfold c2_couldReset_v at k
          simp only [if_neg h1, if_neg h2, if_pos h3, if_pos h4] at k
          exact k
        · refine fl_Tq.jf rfl (fl_bo rfl) (c2_lt_f h4) rfl ?_
          refine fl_Tq.cI (c := (1 : Int32)) rfl (by decide +kernel) (fl_bo rfl) ?_
          refine fl_Tq.stp (pc' := 65) (lv' := [some (.inr (.inr (.inl (49, 181)))), some (.inl x)]) (st' := [.inl (1 : Int32)]) (m' := (f, l)) rfl rfl (fl_bo rfl) rfl ?_
          refine fl_Tq.ret rfl rfl rfl ?_
          unfold c2_couldReset_v at k
          simp only [if_neg h1, if_neg h2, if_pos h3, if_neg h4] at k
          exact k
      · refine fl_Tq.zt rfl (fl_bo rfl) (c1_ne_t h3) rfl ?_
        refine fl_Tq.cI (c := (0 : Int32)) rfl (by decide +kernel) (fl_bo rfl) ?_
        refine fl_Tq.ret rfl rfl rfl ?_
        unfold c2_couldReset_v at k
        simp only [if_neg h1, if_neg h2, if_neg h3] at k
        exact k
noncomputable def c2_hasEnded_e2 (f : t2_F) (x : Int32) : Nat → Option Int32
  | 0 => none
  | k2 + 1 => match c2_hasEnded_e2 f x k2 with
    | some r => some r
    | none => if (f (198 + 4 * k2) 2).toInt = (if x.toInt = 0 then (f (198 + 4 * k2) 0) * (3600 : Int32) else (0 : Int32)).toInt then some (1 : Int32) else none
noncomputable def c2_hasEnded_v (f : t2_F) (x : Int32) : Int32 := match c2_hasEnded_e2 f x ((f 181 5).toInt.toNat) with | some r => r | none => (0 : Int32)
theorem c2_hasEnded_q {L : Nat} {xs : Nat → Int32} {f : t2_F} {l : t2_L} {Q : Option fl_V → fl_M → Prop} {x : Int32} (hc : 0 ≤ (f 181 5).toInt ∧ (f 181 5).toInt ≤ 16) (k : Q (some (.inl (c2_hasEnded_v f x))) (f, l)) : fl_Tq (pw_P L xs) 49 0 (fl_args (am_mxl (pw_P L xs) 49) [.inr (.inr (.inl (49, 181))), .inl x]) [] (f, l) Q := by
  refine fl_Tq.cI (c := (0 : Int32)) rfl (by decide +kernel) (fl_bo rfl) ?_
  refine fl_Tq.stp (pc' := 2) (lv' := [some (.inr (.inr (.inl (49, 181)))), some (.inl x), some (.inl (0 : Int32))]) (st' := []) (m' := (f, l)) rfl rfl (fl_bo rfl) rfl ?_
  have hm2 : ∀ (k : Nat) (r : Int32), c2_hasEnded_e2 f x k = some r → c2_hasEnded_e2 f x (k + 1) = some r := fun k r e => by
    unfold c2_hasEnded_e2
    rw [e]
  have hs2 : ∀ k2 : Nat, k2 < (f 181 5).toInt.toNat → c2_hasEnded_e2 f x k2 = none → (c2_hasEnded_e2 f x (k2 + 1) = none → fl_Tq (pw_P L xs) 49 2 [some (.inr (.inr (.inl (49, 181)))), some (.inl x), some (.inl (Int32.ofNat (k2 + 1)))] [] (f, l) Q) → fl_Tq (pw_P L xs) 49 2 [some (.inr (.inr (.inl (49, 181)))), some (.inl x), some (.inl (Int32.ofNat k2))] [] (f, l) Q := by
    intro k2 hk2 he hS
    refine fl_Tq.stp (pc' := 3) (lv' := [some (.inr (.inr (.inl (49, 181)))), some (.inl x), some (.inl (Int32.ofNat k2))]) (st' := [.inl (Int32.ofNat k2)]) (m' := (f, l)) rfl rfl (fl_bo rfl) rfl ?_
    refine fl_Tq.stp (pc' := 4) (lv' := [some (.inr (.inr (.inl (49, 181)))), some (.inl x), some (.inl (Int32.ofNat k2))]) (st' := [.inr (.inr (.inl (49, 181))), .inl (Int32.ofNat k2)]) (m' := (f, l)) rfl rfl (fl_bo rfl) rfl ?_
    refine fl_Tq.gfV (k := 5) (v := f 181 5) rfl (fl_bo rfl) rfl rfl ?_
    refine fl_Tq.jf rfl (fl_bo rfl) (c2_ge_f (t2_lk hk2 (t2_nn hc.1))) rfl ?_
    refine fl_Tq.stp (pc' := 11) (lv' := [some (.inr (.inr (.inl (49, 181)))), some (.inl x), some (.inl (Int32.ofNat k2))]) (st' := [.inr (.inr (.inl (49, 181)))]) (m' := (f, l)) rfl rfl (fl_bo rfl) rfl ?_
    refine fl_Tq.stp (pc' := 14) (lv' := [some (.inr (.inr (.inl (49, 181)))), some (.inl x), some (.inl (Int32.ofNat k2))]) (st' := [.inr (.inr (.inl (50, 182)))]) (m' := (f, l)) rfl rfl (fl_bo rfl) rfl ?_
    refine fl_Tq.stp (pc' := 15) (lv' := [some (.inr (.inr (.inl (49, 181)))), some (.inl x), some (.inl (Int32.ofNat k2))]) (st' := [.inl (Int32.ofNat k2), .inr (.inr (.inl (50, 182)))]) (m' := (f, l)) rfl rfl (fl_bo rfl) rfl ?_
    refine fl_Tq.qld (p := 182) (τ := 50) (n := 16) (t := 66) (b := 16) (d := 3) (k := k2) rfl (fl_bo rfl) rfl (at_ofN (by omega)) (by omega) ?_
    show fl_Tq _ 49 16 [some (.inr (.inr (.inl (49, 181)))), some (.inl x), some (.inl (Int32.ofNat k2))] [.inr (.inr (.inl (66, 198 + 4 * k2)))] (f, l) _
    refine fl_Tq.gfV (k := 2) (v := f (198 + 4 * k2) 2) rfl (fl_oks_ok ⟨(t2_kc2 (by omega)), True.intro⟩) rfl rfl ?_
    refine fl_Tq.stp (pc' := 20) (lv' := [some (.inr (.inr (.inl (49, 181)))), some (.inl x), some (.inl (Int32.ofNat k2))]) (st' := [.inl x, .inl (f (198 + 4 * k2) 2)]) (m' := (f, l)) rfl rfl (fl_bo rfl) rfl ?_
    have hj172 : fl_Tq (pw_P L xs) 49 36 [some (.inr (.inr (.inl (49, 181)))), some (.inl x), some (.inl (Int32.ofNat k2))] [.inl (if x.toInt = 0 then (f (198 + 4 * k2) 0) * (3600 : Int32) else (0 : Int32)), .inl (f (198 + 4 * k2) 2)] (f, l) Q → fl_Tq (pw_P L xs) 49 20 [some (.inr (.inr (.inl (49, 181)))), some (.inl x), some (.inl (Int32.ofNat k2))] [.inl x, .inl (f (198 + 4 * k2) 2)] (f, l) Q := by
      intro hJ
      by_cases h1 : x.toInt = 0
      · refine fl_Tq.zf rfl (fl_bo rfl) (c1_ne_f h1) rfl ?_
        refine fl_Tq.stp (pc' := 24) (lv' := [some (.inr (.inr (.inl (49, 181)))), some (.inl x), some (.inl (Int32.ofNat k2))]) (st' := [.inr (.inr (.inl (49, 181))), .inl (f (198 + 4 * k2) 2)]) (m' := (f, l)) rfl rfl (fl_bo rfl) rfl ?_
        refine fl_Tq.stp (pc' := 27) (lv' := [some (.inr (.inr (.inl (49, 181)))), some (.inl x), some (.inl (Int32.ofNat k2))]) (st' := [.inr (.inr (.inl (50, 182))), .inl (f (198 + 4 * k2) 2)]) (m' := (f, l)) rfl rfl (fl_bo rfl) rfl ?_
        refine fl_Tq.stp (pc' := 28) (lv' := [some (.inr (.inr (.inl (49, 181)))), some (.inl x), some (.inl (Int32.ofNat k2))]) (st' := [.inl (Int32.ofNat k2), .inr (.inr (.inl (50, 182))), .inl (f (198 + 4 * k2) 2)]) (m' := (f, l)) rfl rfl (fl_bo rfl) rfl ?_
        refine fl_Tq.qld (p := 182) (τ := 50) (n := 16) (t := 66) (b := 16) (d := 3) (k := k2) rfl (fl_bo rfl) rfl (at_ofN (by omega)) (by omega) ?_
        show fl_Tq _ 49 29 [some (.inr (.inr (.inl (49, 181)))), some (.inl x), some (.inl (Int32.ofNat k2))] [.inr (.inr (.inl (66, 198 + 4 * k2))), .inl (f (198 + 4 * k2) 2)] (f, l) _
        refine fl_Tq.cal rfl rfl (fl_oks_ok ⟨(t2_kc2 (by omega)), True.intro, True.intro⟩) rfl ?_
        refine fl_Tq.stp (pc' := 1) (lv' := [some (.inr (.inr (.inl (66, 198 + 4 * k2))))]) (st' := [.inr (.inr (.inl (66, 198 + 4 * k2)))]) (m' := (f, l)) rfl rfl (fl_bo rfl) rfl ?_
        refine fl_Tq.gfV (k := 0) (v := f (198 + 4 * k2) 0) rfl (fl_oks_ok ⟨(t2_kc2 (by omega)), True.intro⟩) rfl rfl ?_
        refine fl_Tq.cS (c := (3600 : Int32)) rfl (by decide +kernel) (fl_bo rfl) ?_
        refine fl_Tq.stp (pc' := 8) (lv' := [some (.inr (.inr (.inl (66, 198 + 4 * k2))))]) (st' := [.inl ((f (198 + 4 * k2) 0) * (3600 : Int32))]) (m' := (f, l)) rfl rfl (fl_bo rfl) rfl ?_
        refine fl_Tq.ret rfl rfl rfl ?_
        show fl_Tq _ 49 32 [some (.inr (.inr (.inl (49, 181)))), some (.inl x), some (.inl (Int32.ofNat k2))] [.inl ((f (198 + 4 * k2) 0) * (3600 : Int32)), .inl (f (198 + 4 * k2) 2)] (f, l) _
        refine fl_Tq.stp (pc' := 36) (lv' := [some (.inr (.inr (.inl (49, 181)))), some (.inl x), some (.inl (Int32.ofNat k2))]) (st' := [.inl ((f (198 + 4 * k2) 0) * (3600 : Int32)), .inl (f (198 + 4 * k2) 2)]) (m' := (f, l)) rfl rfl (fl_bo rfl) rfl ?_
        have e0 : (if x.toInt = 0 then (f (198 + 4 * k2) 0) * (3600 : Int32) else (0 : Int32)) = (f (198 + 4 * k2) 0) * (3600 : Int32) := by simp only [if_pos h1]
        rw [e0] at hJ
        exact hJ
      · refine fl_Tq.zt rfl (fl_bo rfl) (c1_ne_t h1) rfl ?_
        refine fl_Tq.cI (c := (0 : Int32)) rfl (by decide +kernel) (fl_bo rfl) ?_
        have e0 : (if x.toInt = 0 then (f (198 + 4 * k2) 0) * (3600 : Int32) else (0 : Int32)) = (0 : Int32) := by simp only [if_neg h1]
        rw [e0] at hJ
        exact hJ
    refine hj172 ?_
    show fl_Tq _ 49 36 [some (.inr (.inr (.inl (49, 181)))), some (.inl x), some (.inl (Int32.ofNat k2))] [.inl (if x.toInt = 0 then (f (198 + 4 * k2) 0) * (3600 : Int32) else (0 : Int32)), .inl (f (198 + 4 * k2) 2)] (f, l) _
    by_cases h2 : (f (198 + 4 * k2) 2).toInt = (if x.toInt = 0 then (f (198 + 4 * k2) 0) * (3600 : Int32) else (0 : Int32)).toInt
    · refine fl_Tq.jf rfl (fl_bo rfl) (c2_ne_f h2) rfl ?_
      refine fl_Tq.cI (c := (1 : Int32)) rfl (by decide +kernel) (fl_bo rfl) ?_
      have ee : c2_hasEnded_e2 f x (k2 + 1) = some (1 : Int32) := by
        unfold c2_hasEnded_e2
        rw [he]
        simp only [if_pos h2]
      have en : c2_hasEnded_e2 f x ((f 181 5).toInt.toNat) = some (1 : Int32) := t2_Em hm2 ee (by omega)
      refine fl_Tq.ret rfl rfl rfl ?_
      unfold c2_hasEnded_v at k
      simp only [en] at k
      exact k
    · refine fl_Tq.jt rfl (fl_bo rfl) (c2_ne_t h2) rfl ?_
      refine fl_Tq.stp (pc' := 44) (lv' := [some (.inr (.inr (.inl (49, 181)))), some (.inl x), some (.inl ((Int32.ofNat k2) + (1 : Int32)))]) (st' := []) (m' := (f, l)) rfl rfl (fl_bo rfl) rfl ?_
      refine fl_Tq.stp (pc' := 2) (lv' := [some (.inr (.inr (.inl (49, 181)))), some (.inl x), some (.inl ((Int32.ofNat k2) + (1 : Int32)))]) (st' := []) (m' := (f, l)) rfl rfl (fl_bo rfl) rfl ?_
      have ee : c2_hasEnded_e2 f x (k2 + 1) = none := by
        unfold c2_hasEnded_e2
        rw [he]
        simp only [if_neg h2]
      have hS := hS ee
      rw [← t2_k1] at hS
      exact hS
  refine t2_forE (E := c2_hasEnded_e2 f x) (S := fun k2 => fl_Tq (pw_P L xs) 49 2 [some (.inr (.inr (.inl (49, 181)))), some (.inl x), some (.inl (Int32.ofNat k2))] [] (f, l) Q) hs2 rfl (fun en2 => ?_)
  show fl_Tq (pw_P L xs) 49 2 [some (.inr (.inr (.inl (49, 181)))), some (.inl x), some (.inl (Int32.ofNat ((f 181 5).toInt.toNat)))] [] (f, l) _
  refine fl_Tq.stp (pc' := 3) (lv' := [some (.inr (.inr (.inl (49, 181)))), some (.inl x), some (.inl (Int32.ofNat ((f 181 5).toInt.toNat)))]) (st' := [.inl (Int32.ofNat ((f 181 5).toInt.toNat))]) (m' := (f, l)) rfl rfl (fl_bo rfl) rfl ?_
  refine fl_Tq.stp (pc' := 4) (lv' := [some (.inr (.inr (.inl (49, 181)))), some (.inl x), some (.inl (Int32.ofNat ((f 181 5).toInt.toNat)))]) (st' := [.inr (.inr (.inl (49, 181))), .inl (Int32.ofNat ((f 181 5).toInt.toNat))]) (m' := (f, l)) rfl rfl (fl_bo rfl) rfl ?_
  refine fl_Tq.gfV (k := 5) (v := f 181 5) rfl (fl_bo rfl) rfl rfl ?_
  refine fl_Tq.jt rfl (fl_bo rfl) (c2_ge_t (t2_ln (t2_nn hc.1))) rfl ?_
  refine fl_Tq.cI (c := (0 : Int32)) rfl (by decide +kernel) (fl_bo rfl) ?_
  refine fl_Tq.ret rfl rfl rfl ?_
  unfold c2_hasEnded_v at k
  simp only [en2] at k
  exact k
noncomputable def c2_placeOf_a15 (f : t2_F) (x : Int32) : Nat → Int32
  | 0 => (0 : Int32)
  | k15 + 1 => (c2_placeOf_a15 f x k15) + (if (if (f (198 + 4 * k15) 3).toInt = (f (198 + 4 * x.toInt.toNat) 3).toInt then (if (Int32.ofNat k15).toInt < x.toInt then (1 : Int32) else (0 : Int32)) else (0 : Int32)).toInt = 0 then (if (f (198 + 4 * x.toInt.toNat) 3).toInt < (f (198 + 4 * k15) 3).toInt then (1 : Int32) else (0 : Int32)) else (1 : Int32))
noncomputable def c2_placeOf_v (f : t2_F) (x : Int32) : Int32 := c2_placeOf_a15 f x ((f 181 5).toInt.toNat)
theorem c2_placeOf_q {L : Nat} {xs : Nat → Int32} {f : t2_F} {l : t2_L} {Q : Option fl_V → fl_M → Prop} {x : Int32} (hc : 0 ≤ (f 181 5).toInt ∧ (f 181 5).toInt ≤ 16) (hx : 0 ≤ x.toInt ∧ x.toInt < 16) (k : Q (some (.inl (c2_placeOf_v f x))) (f, l)) : fl_Tq (pw_P L xs) 47 0 (fl_args (am_mxl (pw_P L xs) 47) [.inr (.inr (.inl (49, 181))), .inl x]) [] (f, l) Q := by
  refine fl_Tq.cI (c := (0 : Int32)) rfl (by decide +kernel) (fl_bo rfl) ?_
  refine fl_Tq.stp (pc' := 2) (lv' := [some (.inr (.inr (.inl (49, 181)))), some (.inl x), some (.inl (0 : Int32)), none, none, none]) (st' := []) (m' := (f, l)) rfl rfl (fl_bo rfl) rfl ?_
  refine fl_Tq.stp (pc' := 3) (lv' := [some (.inr (.inr (.inl (49, 181)))), some (.inl x), some (.inl (0 : Int32)), none, none, none]) (st' := [.inr (.inr (.inl (49, 181)))]) (m' := (f, l)) rfl rfl (fl_bo rfl) rfl ?_
  refine fl_Tq.stp (pc' := 6) (lv' := [some (.inr (.inr (.inl (49, 181)))), some (.inl x), some (.inl (0 : Int32)), none, none, none]) (st' := [.inr (.inr (.inl (50, 182)))]) (m' := (f, l)) rfl rfl (fl_bo rfl) rfl ?_
  refine fl_Tq.stp (pc' := 7) (lv' := [some (.inr (.inr (.inl (49, 181)))), some (.inl x), some (.inl (0 : Int32)), none, none, none]) (st' := [.inl x, .inr (.inr (.inl (50, 182)))]) (m' := (f, l)) rfl rfl (fl_bo rfl) rfl ?_
  refine fl_Tq.qld (p := 182) (τ := 50) (n := 16) (t := 66) (b := 16) (d := 3) (k := x.toInt.toNat) rfl (fl_bo rfl) rfl (t2_nn hx.1) (by omega) ?_
  show fl_Tq _ 47 8 [some (.inr (.inr (.inl (49, 181)))), some (.inl x), some (.inl (0 : Int32)), none, none, none] [.inr (.inr (.inl (66, 198 + 4 * x.toInt.toNat)))] (f, l) _
  refine fl_Tq.gfV (k := 3) (v := f (198 + 4 * x.toInt.toNat) 3) rfl (fl_oks_ok ⟨(t2_kc2 (by omega)), True.intro⟩) rfl rfl ?_
  refine fl_Tq.stp (pc' := 12) (lv' := [some (.inr (.inr (.inl (49, 181)))), some (.inl x), some (.inl (0 : Int32)), some (.inl (f (198 + 4 * x.toInt.toNat) 3)), none, none]) (st' := []) (m' := (f, l)) rfl rfl (fl_bo rfl) rfl ?_
  refine fl_Tq.cI (c := (0 : Int32)) rfl (by decide +kernel) (fl_bo rfl) ?_
  refine fl_Tq.stp (pc' := 15) (lv' := [some (.inr (.inr (.inl (49, 181)))), some (.inl x), some (.inl (0 : Int32)), some (.inl (f (198 + 4 * x.toInt.toNat) 3)), some (.inl (0 : Int32)), none]) (st' := []) (m' := (f, l)) rfl rfl (fl_bo rfl) rfl ?_
  have hs15 : ∀ k15 : Nat, k15 < (f 181 5).toInt.toNat → fl_Tq (pw_P L xs) 47 15 [some (.inr (.inr (.inl (49, 181)))), some (.inl x), some (.inl (c2_placeOf_a15 f x (k15 + 1))), some (.inl (f (198 + 4 * x.toInt.toNat) 3)), some (.inl (Int32.ofNat (k15 + 1))), none] [] (f, l) Q → fl_Tq (pw_P L xs) 47 15 [some (.inr (.inr (.inl (49, 181)))), some (.inl x), some (.inl (c2_placeOf_a15 f x k15)), some (.inl (f (198 + 4 * x.toInt.toNat) 3)), some (.inl (Int32.ofNat k15)), none] [] (f, l) Q := by
    intro k15 hk15 hS
    refine fl_Tq.stp (pc' := 17) (lv' := [some (.inr (.inr (.inl (49, 181)))), some (.inl x), some (.inl (c2_placeOf_a15 f x k15)), some (.inl (f (198 + 4 * x.toInt.toNat) 3)), some (.inl (Int32.ofNat k15)), none]) (st' := [.inl (Int32.ofNat k15)]) (m' := (f, l)) rfl rfl (fl_bo rfl) rfl ?_
    refine fl_Tq.stp (pc' := 18) (lv' := [some (.inr (.inr (.inl (49, 181)))), some (.inl x), some (.inl (c2_placeOf_a15 f x k15)), some (.inl (f (198 + 4 * x.toInt.toNat) 3)), some (.inl (Int32.ofNat k15)), none]) (st' := [.inr (.inr (.inl (49, 181))), .inl (Int32.ofNat k15)]) (m' := (f, l)) rfl rfl (fl_bo rfl) rfl ?_
    refine fl_Tq.gfV (k := 5) (v := f 181 5) rfl (fl_bo rfl) rfl rfl ?_
    refine fl_Tq.jf rfl (fl_bo rfl) (c2_ge_f (t2_lk hk15 (t2_nn hc.1))) rfl ?_
    refine fl_Tq.stp (pc' := 25) (lv' := [some (.inr (.inr (.inl (49, 181)))), some (.inl x), some (.inl (c2_placeOf_a15 f x k15)), some (.inl (f (198 + 4 * x.toInt.toNat) 3)), some (.inl (Int32.ofNat k15)), none]) (st' := [.inr (.inr (.inl (49, 181)))]) (m' := (f, l)) rfl rfl (fl_bo rfl) rfl ?_
    refine fl_Tq.stp (pc' := 28) (lv' := [some (.inr (.inr (.inl (49, 181)))), some (.inl x), some (.inl (c2_placeOf_a15 f x k15)), some (.inl (f (198 + 4 * x.toInt.toNat) 3)), some (.inl (Int32.ofNat k15)), none]) (st' := [.inr (.inr (.inl (50, 182)))]) (m' := (f, l)) rfl rfl (fl_bo rfl) rfl ?_
    refine fl_Tq.stp (pc' := 30) (lv' := [some (.inr (.inr (.inl (49, 181)))), some (.inl x), some (.inl (c2_placeOf_a15 f x k15)), some (.inl (f (198 + 4 * x.toInt.toNat) 3)), some (.inl (Int32.ofNat k15)), none]) (st' := [.inl (Int32.ofNat k15), .inr (.inr (.inl (50, 182)))]) (m' := (f, l)) rfl rfl (fl_bo rfl) rfl ?_
    refine fl_Tq.qld (p := 182) (τ := 50) (n := 16) (t := 66) (b := 16) (d := 3) (k := k15) rfl (fl_bo rfl) rfl (at_ofN (by omega)) (by omega) ?_
    show fl_Tq _ 47 31 [some (.inr (.inr (.inl (49, 181)))), some (.inl x), some (.inl (c2_placeOf_a15 f x k15)), some (.inl (f (198 + 4 * x.toInt.toNat) 3)), some (.inl (Int32.ofNat k15)), none] [.inr (.inr (.inl (66, 198 + 4 * k15)))] (f, l) _
    refine fl_Tq.gfV (k := 3) (v := f (198 + 4 * k15) 3) rfl (fl_oks_ok ⟨(t2_kc2 (by omega)), True.intro⟩) rfl rfl ?_
    refine fl_Tq.stp (pc' := 35) (lv' := [some (.inr (.inr (.inl (49, 181)))), some (.inl x), some (.inl (c2_placeOf_a15 f x k15)), some (.inl (f (198 + 4 * x.toInt.toNat) 3)), some (.inl (Int32.ofNat k15)), none]) (st' := [.inl (f (198 + 4 * x.toInt.toNat) 3), .inl (f (198 + 4 * k15) 3)]) (m' := (f, l)) rfl rfl (fl_bo rfl) rfl ?_
    have hj173 : fl_Tq (pw_P L xs) 47 49 [some (.inr (.inr (.inl (49, 181)))), some (.inl x), some (.inl (c2_placeOf_a15 f x k15)), some (.inl (f (198 + 4 * x.toInt.toNat) 3)), some (.inl (Int32.ofNat k15)), none] [.inl (if (f (198 + 4 * k15) 3).toInt = (f (198 + 4 * x.toInt.toNat) 3).toInt then (if (Int32.ofNat k15).toInt < x.toInt then (1 : Int32) else (0 : Int32)) else (0 : Int32))] (f, l) Q → fl_Tq (pw_P L xs) 47 35 [some (.inr (.inr (.inl (49, 181)))), some (.inl x), some (.inl (c2_placeOf_a15 f x k15)), some (.inl (f (198 + 4 * x.toInt.toNat) 3)), some (.inl (Int32.ofNat k15)), none] [.inl (f (198 + 4 * x.toInt.toNat) 3), .inl (f (198 + 4 * k15) 3)] (f, l) Q := by
      intro hJ
      by_cases h1 : (f (198 + 4 * k15) 3).toInt = (f (198 + 4 * x.toInt.toNat) 3).toInt
      · refine fl_Tq.jf rfl (fl_bo rfl) (c2_ne_f h1) rfl ?_
        refine fl_Tq.stp (pc' := 40) (lv' := [some (.inr (.inr (.inl (49, 181)))), some (.inl x), some (.inl (c2_placeOf_a15 f x k15)), some (.inl (f (198 + 4 * x.toInt.toNat) 3)), some (.inl (Int32.ofNat k15)), none]) (st' := [.inl (Int32.ofNat k15)]) (m' := (f, l)) rfl rfl (fl_bo rfl) rfl ?_
        refine fl_Tq.stp (pc' := 41) (lv' := [some (.inr (.inr (.inl (49, 181)))), some (.inl x), some (.inl (c2_placeOf_a15 f x k15)), some (.inl (f (198 + 4 * x.toInt.toNat) 3)), some (.inl (Int32.ofNat k15)), none]) (st' := [.inl x, .inl (Int32.ofNat k15)]) (m' := (f, l)) rfl rfl (fl_bo rfl) rfl ?_
        by_cases h2 : (Int32.ofNat k15).toInt < x.toInt
        · refine fl_Tq.jf rfl (fl_bo rfl) (c2_ge_f h2) rfl ?_
          refine fl_Tq.cI (c := (1 : Int32)) rfl (by decide +kernel) (fl_bo rfl) ?_
          refine fl_Tq.stp (pc' := 49) (lv' := [some (.inr (.inr (.inl (49, 181)))), some (.inl x), some (.inl (c2_placeOf_a15 f x k15)), some (.inl (f (198 + 4 * x.toInt.toNat) 3)), some (.inl (Int32.ofNat k15)), none]) (st' := [.inl (1 : Int32)]) (m' := (f, l)) rfl rfl (fl_bo rfl) rfl ?_
          have e0 : (if (f (198 + 4 * k15) 3).toInt = (f (198 + 4 * x.toInt.toNat) 3).toInt then (if (Int32.ofNat k15).toInt < x.toInt then (1 : Int32) else (0 : Int32)) else (0 : Int32)) = (1 : Int32) := by simp only [if_pos h1, if_pos h2]
          rw [e0] at hJ
          exact hJ
        · refine fl_Tq.jt rfl (fl_bo rfl) (c2_ge_t h2) rfl ?_
          refine fl_Tq.cI (c := (0 : Int32)) rfl (by decide +kernel) (fl_bo rfl) ?_
          have e0 : (if (f (198 + 4 * k15) 3).toInt = (f (198 + 4 * x.toInt.toNat) 3).toInt then (if (Int32.ofNat k15).toInt < x.toInt then (1 : Int32) else (0 : Int32)) else (0 : Int32)) = (0 : Int32) := by simp only [if_pos h1, if_neg h2]
          rw [e0] at hJ
          exact hJ
      · refine fl_Tq.jt rfl (fl_bo rfl) (c2_ne_t h1) rfl ?_
        refine fl_Tq.cI (c := (0 : Int32)) rfl (by decide +kernel) (fl_bo rfl) ?_
        have e0 : (if (f (198 + 4 * k15) 3).toInt = (f (198 + 4 * x.toInt.toNat) 3).toInt then (if (Int32.ofNat k15).toInt < x.toInt then (1 : Int32) else (0 : Int32)) else (0 : Int32)) = (0 : Int32) := by simp only [if_neg h1]
        rw [e0] at hJ
        exact hJ
    refine hj173 ?_
    show fl_Tq _ 47 49 [some (.inr (.inr (.inl (49, 181)))), some (.inl x), some (.inl (c2_placeOf_a15 f x k15)), some (.inl (f (198 + 4 * x.toInt.toNat) 3)), some (.inl (Int32.ofNat k15)), none] [.inl (if (f (198 + 4 * k15) 3).toInt = (f (198 + 4 * x.toInt.toNat) 3).toInt then (if (Int32.ofNat k15).toInt < x.toInt then (1 : Int32) else (0 : Int32)) else (0 : Int32))] (f, l) _
    refine fl_Tq.stp (pc' := 51) (lv' := [some (.inr (.inr (.inl (49, 181)))), some (.inl x), some (.inl (c2_placeOf_a15 f x k15)), some (.inl (f (198 + 4 * x.toInt.toNat) 3)), some (.inl (Int32.ofNat k15)), some (.inl (if (f (198 + 4 * k15) 3).toInt = (f (198 + 4 * x.toInt.toNat) 3).toInt then (if (Int32.ofNat k15).toInt < x.toInt then (1 : Int32) else (0 : Int32)) else (0 : Int32)))]) (st' := []) (m' := (f, l)) rfl rfl (fl_bo rfl) rfl ?_
    refine fl_Tq.stp (pc' := 52) (lv' := [some (.inr (.inr (.inl (49, 181)))), some (.inl x), some (.inl (c2_placeOf_a15 f x k15)), some (.inl (f (198 + 4 * x.toInt.toNat) 3)), some (.inl (Int32.ofNat k15)), some (.inl (if (f (198 + 4 * k15) 3).toInt = (f (198 + 4 * x.toInt.toNat) 3).toInt then (if (Int32.ofNat k15).toInt < x.toInt then (1 : Int32) else (0 : Int32)) else (0 : Int32)))]) (st' := [.inl (c2_placeOf_a15 f x k15)]) (m' := (f, l)) rfl rfl (fl_bo rfl) rfl ?_
    refine fl_Tq.stp (pc' := 54) (lv' := [some (.inr (.inr (.inl (49, 181)))), some (.inl x), some (.inl (c2_placeOf_a15 f x k15)), some (.inl (f (198 + 4 * x.toInt.toNat) 3)), some (.inl (Int32.ofNat k15)), some (.inl (if (f (198 + 4 * k15) 3).toInt = (f (198 + 4 * x.toInt.toNat) 3).toInt then (if (Int32.ofNat k15).toInt < x.toInt then (1 : Int32) else (0 : Int32)) else (0 : Int32)))]) (st' := [.inl (if (f (198 + 4 * k15) 3).toInt = (f (198 + 4 * x.toInt.toNat) 3).toInt then (if (Int32.ofNat k15).toInt < x.toInt then (1 : Int32) else (0 : Int32)) else (0 : Int32)), .inl (c2_placeOf_a15 f x k15)]) (m' := (f, l)) rfl rfl (fl_bo rfl) rfl ?_
    have hj174 : fl_Tq (pw_P L xs) 47 76 [some (.inr (.inr (.inl (49, 181)))), some (.inl x), some (.inl (c2_placeOf_a15 f x k15)), some (.inl (f (198 + 4 * x.toInt.toNat) 3)), some (.inl (Int32.ofNat k15)), some (.inl (if (f (198 + 4 * k15) 3).toInt = (f (198 + 4 * x.toInt.toNat) 3).toInt then (if (Int32.ofNat k15).toInt < x.toInt then (1 : Int32) else (0 : Int32)) else (0 : Int32)))] [.inl (if (if (f (198 + 4 * k15) 3).toInt = (f (198 + 4 * x.toInt.toNat) 3).toInt then (if (Int32.ofNat k15).toInt < x.toInt then (1 : Int32) else (0 : Int32)) else (0 : Int32)).toInt = 0 then (if (f (198 + 4 * x.toInt.toNat) 3).toInt < (f (198 + 4 * k15) 3).toInt then (1 : Int32) else (0 : Int32)) else (1 : Int32)), .inl (c2_placeOf_a15 f x k15)] (f, l) Q → fl_Tq (pw_P L xs) 47 54 [some (.inr (.inr (.inl (49, 181)))), some (.inl x), some (.inl (c2_placeOf_a15 f x k15)), some (.inl (f (198 + 4 * x.toInt.toNat) 3)), some (.inl (Int32.ofNat k15)), some (.inl (if (f (198 + 4 * k15) 3).toInt = (f (198 + 4 * x.toInt.toNat) 3).toInt then (if (Int32.ofNat k15).toInt < x.toInt then (1 : Int32) else (0 : Int32)) else (0 : Int32)))] [.inl (if (f (198 + 4 * k15) 3).toInt = (f (198 + 4 * x.toInt.toNat) 3).toInt then (if (Int32.ofNat k15).toInt < x.toInt then (1 : Int32) else (0 : Int32)) else (0 : Int32)), .inl (c2_placeOf_a15 f x k15)] (f, l) Q := by
      intro hJ
      by_cases h3 : (if (f (198 + 4 * k15) 3).toInt = (f (198 + 4 * x.toInt.toNat) 3).toInt then (if (Int32.ofNat k15).toInt < x.toInt then (1 : Int32) else (0 : Int32)) else (0 : Int32)).toInt = 0
      · refine fl_Tq.zf rfl (fl_bo rfl) (c1_ne_f h3) rfl ?_
        refine fl_Tq.stp (pc' := 58) (lv' := [some (.inr (.inr (.inl (49, 181)))), some (.inl x), some (.inl (c2_placeOf_a15 f x k15)), some (.inl (f (198 + 4 * x.toInt.toNat) 3)), some (.inl (Int32.ofNat k15)), some (.inl (if (f (198 + 4 * k15) 3).toInt = (f (198 + 4 * x.toInt.toNat) 3).toInt then (if (Int32.ofNat k15).toInt < x.toInt then (1 : Int32) else (0 : Int32)) else (0 : Int32)))]) (st' := [.inr (.inr (.inl (49, 181))), .inl (c2_placeOf_a15 f x k15)]) (m' := (f, l)) rfl rfl (fl_bo rfl) rfl ?_
        refine fl_Tq.stp (pc' := 61) (lv' := [some (.inr (.inr (.inl (49, 181)))), some (.inl x), some (.inl (c2_placeOf_a15 f x k15)), some (.inl (f (198 + 4 * x.toInt.toNat) 3)), some (.inl (Int32.ofNat k15)), some (.inl (if (f (198 + 4 * k15) 3).toInt = (f (198 + 4 * x.toInt.toNat) 3).toInt then (if (Int32.ofNat k15).toInt < x.toInt then (1 : Int32) else (0 : Int32)) else (0 : Int32)))]) (st' := [.inr (.inr (.inl (50, 182))), .inl (c2_placeOf_a15 f x k15)]) (m' := (f, l)) rfl rfl (fl_bo rfl) rfl ?_
        refine fl_Tq.stp (pc' := 63) (lv' := [some (.inr (.inr (.inl (49, 181)))), some (.inl x), some (.inl (c2_placeOf_a15 f x k15)), some (.inl (f (198 + 4 * x.toInt.toNat) 3)), some (.inl (Int32.ofNat k15)), some (.inl (if (f (198 + 4 * k15) 3).toInt = (f (198 + 4 * x.toInt.toNat) 3).toInt then (if (Int32.ofNat k15).toInt < x.toInt then (1 : Int32) else (0 : Int32)) else (0 : Int32)))]) (st' := [.inl (Int32.ofNat k15), .inr (.inr (.inl (50, 182))), .inl (c2_placeOf_a15 f x k15)]) (m' := (f, l)) rfl rfl (fl_bo rfl) rfl ?_
        refine fl_Tq.qld (p := 182) (τ := 50) (n := 16) (t := 66) (b := 16) (d := 3) (k := k15) rfl (fl_bo rfl) rfl (at_ofN (by omega)) (by omega) ?_
        show fl_Tq _ 47 64 [some (.inr (.inr (.inl (49, 181)))), some (.inl x), some (.inl (c2_placeOf_a15 f x k15)), some (.inl (f (198 + 4 * x.toInt.toNat) 3)), some (.inl (Int32.ofNat k15)), some (.inl (if (f (198 + 4 * k15) 3).toInt = (f (198 + 4 * x.toInt.toNat) 3).toInt then (if (Int32.ofNat k15).toInt < x.toInt then (1 : Int32) else (0 : Int32)) else (0 : Int32)))] [.inr (.inr (.inl (66, 198 + 4 * k15))), .inl (c2_placeOf_a15 f x k15)] (f, l) _
        refine fl_Tq.gfV (k := 3) (v := f (198 + 4 * k15) 3) rfl (fl_oks_ok ⟨(t2_kc2 (by omega)), True.intro, True.intro⟩) rfl rfl ?_
        refine fl_Tq.stp (pc' := 68) (lv' := [some (.inr (.inr (.inl (49, 181)))), some (.inl x), some (.inl (c2_placeOf_a15 f x k15)), some (.inl (f (198 + 4 * x.toInt.toNat) 3)), some (.inl (Int32.ofNat k15)), some (.inl (if (f (198 + 4 * k15) 3).toInt = (f (198 + 4 * x.toInt.toNat) 3).toInt then (if (Int32.ofNat k15).toInt < x.toInt then (1 : Int32) else (0 : Int32)) else (0 : Int32)))]) (st' := [.inl (f (198 + 4 * x.toInt.toNat) 3), .inl (f (198 + 4 * k15) 3), .inl (c2_placeOf_a15 f x k15)]) (m' := (f, l)) rfl rfl (fl_bo rfl) rfl ?_
        by_cases h4 : (f (198 + 4 * x.toInt.toNat) 3).toInt < (f (198 + 4 * k15) 3).toInt
        · refine fl_Tq.jf rfl (fl_bo rfl) (c2_le_f h4) rfl ?_
          refine fl_Tq.cI (c := (1 : Int32)) rfl (by decide +kernel) (fl_bo rfl) ?_
          refine fl_Tq.stp (pc' := 76) (lv' := [some (.inr (.inr (.inl (49, 181)))), some (.inl x), some (.inl (c2_placeOf_a15 f x k15)), some (.inl (f (198 + 4 * x.toInt.toNat) 3)), some (.inl (Int32.ofNat k15)), some (.inl (if (f (198 + 4 * k15) 3).toInt = (f (198 + 4 * x.toInt.toNat) 3).toInt then (if (Int32.ofNat k15).toInt < x.toInt then (1 : Int32) else (0 : Int32)) else (0 : Int32)))]) (st' := [.inl (1 : Int32), .inl (c2_placeOf_a15 f x k15)]) (m' := (f, l)) rfl rfl (fl_bo rfl) rfl ?_
          have e0 : (if (if (f (198 + 4 * k15) 3).toInt = (f (198 + 4 * x.toInt.toNat) 3).toInt then (if (Int32.ofNat k15).toInt < x.toInt then (1 : Int32) else (0 : Int32)) else (0 : Int32)).toInt = 0 then (if (f (198 + 4 * x.toInt.toNat) 3).toInt < (f (198 + 4 * k15) 3).toInt then (1 : Int32) else (0 : Int32)) else (1 : Int32)) = (1 : Int32) := by simp only [if_pos h3, if_pos h4]
          rw [e0] at hJ
          exact hJ
        · refine fl_Tq.jt rfl (fl_bo rfl) (c2_le_t h4) rfl ?_
          refine fl_Tq.cI (c := (0 : Int32)) rfl (by decide +kernel) (fl_bo rfl) ?_
          have e0 : (if (if (f (198 + 4 * k15) 3).toInt = (f (198 + 4 * x.toInt.toNat) 3).toInt then (if (Int32.ofNat k15).toInt < x.toInt then (1 : Int32) else (0 : Int32)) else (0 : Int32)).toInt = 0 then (if (f (198 + 4 * x.toInt.toNat) 3).toInt < (f (198 + 4 * k15) 3).toInt then (1 : Int32) else (0 : Int32)) else (1 : Int32)) = (0 : Int32) := by simp only [if_pos h3, if_neg h4]
          rw [e0] at hJ
          exact hJ
      · refine fl_Tq.zt rfl (fl_bo rfl) (c1_ne_t h3) rfl ?_
        refine fl_Tq.cI (c := (1 : Int32)) rfl (by decide +kernel) (fl_bo rfl) ?_
        refine fl_Tq.stp (pc' := 76) (lv' := [some (.inr (.inr (.inl (49, 181)))), some (.inl x), some (.inl (c2_placeOf_a15 f x k15)), some (.inl (f (198 + 4 * x.toInt.toNat) 3)), some (.inl (Int32.ofNat k15)), some (.inl (if (f (198 + 4 * k15) 3).toInt = (f (198 + 4 * x.toInt.toNat) 3).toInt then (if (Int32.ofNat k15).toInt < x.toInt then (1 : Int32) else (0 : Int32)) else (0 : Int32)))]) (st' := [.inl (1 : Int32), .inl (c2_placeOf_a15 f x k15)]) (m' := (f, l)) rfl rfl (fl_bo rfl) rfl ?_
        have e0 : (if (if (f (198 + 4 * k15) 3).toInt = (f (198 + 4 * x.toInt.toNat) 3).toInt then (if (Int32.ofNat k15).toInt < x.toInt then (1 : Int32) else (0 : Int32)) else (0 : Int32)).toInt = 0 then (if (f (198 + 4 * x.toInt.toNat) 3).toInt < (f (198 + 4 * k15) 3).toInt then (1 : Int32) else (0 : Int32)) else (1 : Int32)) = (1 : Int32) := by simp only [if_neg h3]
        rw [e0] at hJ
        exact hJ
    refine hj174 ?_
    show fl_Tq _ 47 76 [some (.inr (.inr (.inl (49, 181)))), some (.inl x), some (.inl (c2_placeOf_a15 f x k15)), some (.inl (f (198 + 4 * x.toInt.toNat) 3)), some (.inl (Int32.ofNat k15)), some (.inl (if (f (198 + 4 * k15) 3).toInt = (f (198 + 4 * x.toInt.toNat) 3).toInt then (if (Int32.ofNat k15).toInt < x.toInt then (1 : Int32) else (0 : Int32)) else (0 : Int32)))] [.inl (if (if (f (198 + 4 * k15) 3).toInt = (f (198 + 4 * x.toInt.toNat) 3).toInt then (if (Int32.ofNat k15).toInt < x.toInt then (1 : Int32) else (0 : Int32)) else (0 : Int32)).toInt = 0 then (if (f (198 + 4 * x.toInt.toNat) 3).toInt < (f (198 + 4 * k15) 3).toInt then (1 : Int32) else (0 : Int32)) else (1 : Int32)), .inl (c2_placeOf_a15 f x k15)] (f, l) _
    refine fl_Tq.stp (pc' := 77) (lv' := [some (.inr (.inr (.inl (49, 181)))), some (.inl x), some (.inl (c2_placeOf_a15 f x k15)), some (.inl (f (198 + 4 * x.toInt.toNat) 3)), some (.inl (Int32.ofNat k15)), some (.inl (if (f (198 + 4 * k15) 3).toInt = (f (198 + 4 * x.toInt.toNat) 3).toInt then (if (Int32.ofNat k15).toInt < x.toInt then (1 : Int32) else (0 : Int32)) else (0 : Int32)))]) (st' := [.inl ((c2_placeOf_a15 f x k15) + (if (if (f (198 + 4 * k15) 3).toInt = (f (198 + 4 * x.toInt.toNat) 3).toInt then (if (Int32.ofNat k15).toInt < x.toInt then (1 : Int32) else (0 : Int32)) else (0 : Int32)).toInt = 0 then (if (f (198 + 4 * x.toInt.toNat) 3).toInt < (f (198 + 4 * k15) 3).toInt then (1 : Int32) else (0 : Int32)) else (1 : Int32)))]) (m' := (f, l)) rfl rfl (fl_bo rfl) rfl ?_
    refine fl_Tq.stp (pc' := 78) (lv' := [some (.inr (.inr (.inl (49, 181)))), some (.inl x), some (.inl ((c2_placeOf_a15 f x k15) + (if (if (f (198 + 4 * k15) 3).toInt = (f (198 + 4 * x.toInt.toNat) 3).toInt then (if (Int32.ofNat k15).toInt < x.toInt then (1 : Int32) else (0 : Int32)) else (0 : Int32)).toInt = 0 then (if (f (198 + 4 * x.toInt.toNat) 3).toInt < (f (198 + 4 * k15) 3).toInt then (1 : Int32) else (0 : Int32)) else (1 : Int32)))), some (.inl (f (198 + 4 * x.toInt.toNat) 3)), some (.inl (Int32.ofNat k15)), some (.inl (if (f (198 + 4 * k15) 3).toInt = (f (198 + 4 * x.toInt.toNat) 3).toInt then (if (Int32.ofNat k15).toInt < x.toInt then (1 : Int32) else (0 : Int32)) else (0 : Int32)))]) (st' := []) (m' := (f, l)) rfl rfl (fl_bo rfl) rfl ?_
    refine fl_Tq.stp (pc' := 81) (lv' := [some (.inr (.inr (.inl (49, 181)))), some (.inl x), some (.inl ((c2_placeOf_a15 f x k15) + (if (if (f (198 + 4 * k15) 3).toInt = (f (198 + 4 * x.toInt.toNat) 3).toInt then (if (Int32.ofNat k15).toInt < x.toInt then (1 : Int32) else (0 : Int32)) else (0 : Int32)).toInt = 0 then (if (f (198 + 4 * x.toInt.toNat) 3).toInt < (f (198 + 4 * k15) 3).toInt then (1 : Int32) else (0 : Int32)) else (1 : Int32)))), some (.inl (f (198 + 4 * x.toInt.toNat) 3)), some (.inl ((Int32.ofNat k15) + (1 : Int32))), some (.inl (if (f (198 + 4 * k15) 3).toInt = (f (198 + 4 * x.toInt.toNat) 3).toInt then (if (Int32.ofNat k15).toInt < x.toInt then (1 : Int32) else (0 : Int32)) else (0 : Int32)))]) (st' := []) (m' := (f, l)) rfl rfl (fl_bo rfl) rfl ?_
    refine fl_Tq.stp (pc' := 15) (lv' := [some (.inr (.inr (.inl (49, 181)))), some (.inl x), some (.inl ((c2_placeOf_a15 f x k15) + (if (if (f (198 + 4 * k15) 3).toInt = (f (198 + 4 * x.toInt.toNat) 3).toInt then (if (Int32.ofNat k15).toInt < x.toInt then (1 : Int32) else (0 : Int32)) else (0 : Int32)).toInt = 0 then (if (f (198 + 4 * x.toInt.toNat) 3).toInt < (f (198 + 4 * k15) 3).toInt then (1 : Int32) else (0 : Int32)) else (1 : Int32)))), some (.inl (f (198 + 4 * x.toInt.toNat) 3)), some (.inl ((Int32.ofNat k15) + (1 : Int32))), some (.inl (if (f (198 + 4 * k15) 3).toInt = (f (198 + 4 * x.toInt.toNat) 3).toInt then (if (Int32.ofNat k15).toInt < x.toInt then (1 : Int32) else (0 : Int32)) else (0 : Int32)))]) (st' := []) (m' := (f, l)) rfl rfl (fl_bo rfl) rfl ?_
    have ea : c2_placeOf_a15 f x (k15 + 1) = (c2_placeOf_a15 f x k15) + (if (if (f (198 + 4 * k15) 3).toInt = (f (198 + 4 * x.toInt.toNat) 3).toInt then (if (Int32.ofNat k15).toInt < x.toInt then (1 : Int32) else (0 : Int32)) else (0 : Int32)).toInt = 0 then (if (f (198 + 4 * x.toInt.toNat) 3).toInt < (f (198 + 4 * k15) 3).toInt then (1 : Int32) else (0 : Int32)) else (1 : Int32)) := by
      show ((c2_placeOf_a15 f x k15) + (if (if (f (198 + 4 * k15) 3).toInt = (f (198 + 4 * x.toInt.toNat) 3).toInt then (if (Int32.ofNat k15).toInt < x.toInt then (1 : Int32) else (0 : Int32)) else (0 : Int32)).toInt = 0 then (if (f (198 + 4 * x.toInt.toNat) 3).toInt < (f (198 + 4 * k15) 3).toInt then (1 : Int32) else (0 : Int32)) else (1 : Int32))) = _
      rfl
    rw [ea, ← t2_k1] at hS
    exact fl_Tq.fg hS ⟨rfl, rfl, rfl, rfl, rfl, True.intro⟩
  refine t2_for (S := fun k15 => fl_Tq (pw_P L xs) 47 15 [some (.inr (.inr (.inl (49, 181)))), some (.inl x), some (.inl (c2_placeOf_a15 f x k15)), some (.inl (f (198 + 4 * x.toInt.toNat) 3)), some (.inl (Int32.ofNat k15)), none] [] (f, l) Q) hs15 ?_
  show fl_Tq (pw_P L xs) 47 15 [some (.inr (.inr (.inl (49, 181)))), some (.inl x), some (.inl (c2_placeOf_a15 f x ((f 181 5).toInt.toNat))), some (.inl (f (198 + 4 * x.toInt.toNat) 3)), some (.inl (Int32.ofNat ((f 181 5).toInt.toNat))), none] [] (f, l) _
  refine fl_Tq.stp (pc' := 17) (lv' := [some (.inr (.inr (.inl (49, 181)))), some (.inl x), some (.inl (c2_placeOf_a15 f x ((f 181 5).toInt.toNat))), some (.inl (f (198 + 4 * x.toInt.toNat) 3)), some (.inl (Int32.ofNat ((f 181 5).toInt.toNat))), none]) (st' := [.inl (Int32.ofNat ((f 181 5).toInt.toNat))]) (m' := (f, l)) rfl rfl (fl_bo rfl) rfl ?_
  refine fl_Tq.stp (pc' := 18) (lv' := [some (.inr (.inr (.inl (49, 181)))), some (.inl x), some (.inl (c2_placeOf_a15 f x ((f 181 5).toInt.toNat))), some (.inl (f (198 + 4 * x.toInt.toNat) 3)), some (.inl (Int32.ofNat ((f 181 5).toInt.toNat))), none]) (st' := [.inr (.inr (.inl (49, 181))), .inl (Int32.ofNat ((f 181 5).toInt.toNat))]) (m' := (f, l)) rfl rfl (fl_bo rfl) rfl ?_
  refine fl_Tq.gfV (k := 5) (v := f 181 5) rfl (fl_bo rfl) rfl rfl ?_
  refine fl_Tq.jt rfl (fl_bo rfl) (c2_ge_t (t2_ln (t2_nn hc.1))) rfl ?_
  refine fl_Tq.stp (pc' := 85) (lv' := [some (.inr (.inr (.inl (49, 181)))), some (.inl x), some (.inl (c2_placeOf_a15 f x ((f 181 5).toInt.toNat))), some (.inl (f (198 + 4 * x.toInt.toNat) 3)), some (.inl (Int32.ofNat ((f 181 5).toInt.toNat))), none]) (st' := [.inl (c2_placeOf_a15 f x ((f 181 5).toInt.toNat))]) (m' := (f, l)) rfl rfl (fl_bo rfl) rfl ?_
  exact fl_Tq.ret rfl rfl rfl k
noncomputable def c2_rankedCell_e2 (f : t2_F) (x : Int32) : Nat → Option Int32
  | 0 => none
  | k2 + 1 => match c2_rankedCell_e2 f x k2 with
    | some r => some r
    | none => if (c2_placeOf_v f (Int32.ofNat k2)).toInt = x.toInt then some (Int32.ofNat k2) else none
noncomputable def c2_rankedCell_v (f : t2_F) (x : Int32) : Int32 := match c2_rankedCell_e2 f x ((f 181 5).toInt.toNat) with | some r => r | none => (-1 : Int32)
theorem c2_rankedCell_q {L : Nat} {xs : Nat → Int32} {f : t2_F} {l : t2_L} {Q : Option fl_V → fl_M → Prop} {x : Int32} (hc : 0 ≤ (f 181 5).toInt ∧ (f 181 5).toInt ≤ 16) (k : Q (some (.inl (c2_rankedCell_v f x))) (f, l)) : fl_Tq (pw_P L xs) 46 0 (fl_args (am_mxl (pw_P L xs) 46) [.inr (.inr (.inl (49, 181))), .inl x]) [] (f, l) Q := by
  refine fl_Tq.cI (c := (0 : Int32)) rfl (by decide +kernel) (fl_bo rfl) ?_
  refine fl_Tq.stp (pc' := 2) (lv' := [some (.inr (.inr (.inl (49, 181)))), some (.inl x), some (.inl (0 : Int32))]) (st' := []) (m' := (f, l)) rfl rfl (fl_bo rfl) rfl ?_
  have hm2 : ∀ (k : Nat) (r : Int32), c2_rankedCell_e2 f x k = some r → c2_rankedCell_e2 f x (k + 1) = some r := fun k r e => by
    unfold c2_rankedCell_e2
    rw [e]
  have hs2 : ∀ k2 : Nat, k2 < (f 181 5).toInt.toNat → c2_rankedCell_e2 f x k2 = none → (c2_rankedCell_e2 f x (k2 + 1) = none → fl_Tq (pw_P L xs) 46 2 [some (.inr (.inr (.inl (49, 181)))), some (.inl x), some (.inl (Int32.ofNat (k2 + 1)))] [] (f, l) Q) → fl_Tq (pw_P L xs) 46 2 [some (.inr (.inr (.inl (49, 181)))), some (.inl x), some (.inl (Int32.ofNat k2))] [] (f, l) Q := by
    intro k2 hk2 he hS
    refine fl_Tq.stp (pc' := 3) (lv' := [some (.inr (.inr (.inl (49, 181)))), some (.inl x), some (.inl (Int32.ofNat k2))]) (st' := [.inl (Int32.ofNat k2)]) (m' := (f, l)) rfl rfl (fl_bo rfl) rfl ?_
    refine fl_Tq.stp (pc' := 4) (lv' := [some (.inr (.inr (.inl (49, 181)))), some (.inl x), some (.inl (Int32.ofNat k2))]) (st' := [.inr (.inr (.inl (49, 181))), .inl (Int32.ofNat k2)]) (m' := (f, l)) rfl rfl (fl_bo rfl) rfl ?_
    refine fl_Tq.gfV (k := 5) (v := f 181 5) rfl (fl_bo rfl) rfl rfl ?_
    refine fl_Tq.jf rfl (fl_bo rfl) (c2_ge_f (t2_lk hk2 (t2_nn hc.1))) rfl ?_
    refine fl_Tq.stp (pc' := 11) (lv' := [some (.inr (.inr (.inl (49, 181)))), some (.inl x), some (.inl (Int32.ofNat k2))]) (st' := [.inr (.inr (.inl (49, 181)))]) (m' := (f, l)) rfl rfl (fl_bo rfl) rfl ?_
    refine fl_Tq.stp (pc' := 12) (lv' := [some (.inr (.inr (.inl (49, 181)))), some (.inl x), some (.inl (Int32.ofNat k2))]) (st' := [.inl (Int32.ofNat k2), .inr (.inr (.inl (49, 181)))]) (m' := (f, l)) rfl rfl (fl_bo rfl) rfl ?_
    refine fl_Tq.cal rfl rfl (fl_bo rfl) rfl ?_
    refine c2_placeOf_q hc (by have e := at_ofN (k := k2) (by omega); omega) ?_
    show fl_Tq _ 46 15 [some (.inr (.inr (.inl (49, 181)))), some (.inl x), some (.inl (Int32.ofNat k2))] [.inl (c2_placeOf_v f (Int32.ofNat k2))] (f, l) _
    refine fl_Tq.stp (pc' := 16) (lv' := [some (.inr (.inr (.inl (49, 181)))), some (.inl x), some (.inl (Int32.ofNat k2))]) (st' := [.inl x, .inl (c2_placeOf_v f (Int32.ofNat k2))]) (m' := (f, l)) rfl rfl (fl_bo rfl) rfl ?_
    by_cases h1 : (c2_placeOf_v f (Int32.ofNat k2)).toInt = x.toInt
    · refine fl_Tq.jf rfl (fl_bo rfl) (c2_ne_f h1) rfl ?_
      refine fl_Tq.stp (pc' := 20) (lv' := [some (.inr (.inr (.inl (49, 181)))), some (.inl x), some (.inl (Int32.ofNat k2))]) (st' := [.inl (Int32.ofNat k2)]) (m' := (f, l)) rfl rfl (fl_bo rfl) rfl ?_
      have ee : c2_rankedCell_e2 f x (k2 + 1) = some (Int32.ofNat k2) := by
        unfold c2_rankedCell_e2
        rw [he]
        simp only [if_pos h1]
      have en : c2_rankedCell_e2 f x ((f 181 5).toInt.toNat) = some (Int32.ofNat k2) := t2_Em hm2 ee (by omega)
      refine fl_Tq.ret rfl rfl rfl ?_
      unfold c2_rankedCell_v at k
      simp only [en] at k
      exact k
    · refine fl_Tq.jt rfl (fl_bo rfl) (c2_ne_t h1) rfl ?_
      refine fl_Tq.stp (pc' := 24) (lv' := [some (.inr (.inr (.inl (49, 181)))), some (.inl x), some (.inl ((Int32.ofNat k2) + (1 : Int32)))]) (st' := []) (m' := (f, l)) rfl rfl (fl_bo rfl) rfl ?_
      refine fl_Tq.stp (pc' := 2) (lv' := [some (.inr (.inr (.inl (49, 181)))), some (.inl x), some (.inl ((Int32.ofNat k2) + (1 : Int32)))]) (st' := []) (m' := (f, l)) rfl rfl (fl_bo rfl) rfl ?_
      have ee : c2_rankedCell_e2 f x (k2 + 1) = none := by
        unfold c2_rankedCell_e2
        rw [he]
        simp only [if_neg h1]
      have hS := hS ee
      rw [← t2_k1] at hS
      exact hS
  refine t2_forE (E := c2_rankedCell_e2 f x) (S := fun k2 => fl_Tq (pw_P L xs) 46 2 [some (.inr (.inr (.inl (49, 181)))), some (.inl x), some (.inl (Int32.ofNat k2))] [] (f, l) Q) hs2 rfl (fun en2 => ?_)
  show fl_Tq (pw_P L xs) 46 2 [some (.inr (.inr (.inl (49, 181)))), some (.inl x), some (.inl (Int32.ofNat ((f 181 5).toInt.toNat)))] [] (f, l) _
  refine fl_Tq.stp (pc' := 3) (lv' := [some (.inr (.inr (.inl (49, 181)))), some (.inl x), some (.inl (Int32.ofNat ((f 181 5).toInt.toNat)))]) (st' := [.inl (Int32.ofNat ((f 181 5).toInt.toNat))]) (m' := (f, l)) rfl rfl (fl_bo rfl) rfl ?_
  refine fl_Tq.stp (pc' := 4) (lv' := [some (.inr (.inr (.inl (49, 181)))), some (.inl x), some (.inl (Int32.ofNat ((f 181 5).toInt.toNat)))]) (st' := [.inr (.inr (.inl (49, 181))), .inl (Int32.ofNat ((f 181 5).toInt.toNat))]) (m' := (f, l)) rfl rfl (fl_bo rfl) rfl ?_
  refine fl_Tq.gfV (k := 5) (v := f 181 5) rfl (fl_bo rfl) rfl rfl ?_
  refine fl_Tq.jt rfl (fl_bo rfl) (c2_ge_t (t2_ln (t2_nn hc.1))) rfl ?_
  refine fl_Tq.cI (c := (-1 : Int32)) rfl (by decide +kernel) (fl_bo rfl) ?_
  refine fl_Tq.ret rfl rfl rfl ?_
  unfold c2_rankedCell_v at k
  simp only [en2] at k
  exact k

end

/-! 94.00.bits.lean.txt -/
section
/-! ===== bits ===== -/
def t2_bt (b : Int32) (j : Nat) : Bool := b.toBitVec.getLsbD j
theorem t2_shn : ∀ j : Fin 32, ((Int32.ofNat j.val &&& 31).toBitVec.smod 32).toNat = j.val := by decide +kernel
theorem t2_one : ∀ c : Fin 32, ((1 : Int32) <<< (Int32.ofNat c.val &&& 31)).toBitVec = 1#32 <<< c.val := by decide +kernel
theorem t2_and1 (z : Int32) : z &&& 1 = if z.toBitVec.getLsbD 0 = true then 1 else 0 := by
  apply Int32.toBitVec_inj.mp
  show z.toBitVec &&& 1#32 = _
  rw [BitVec.and_one_eq_setWidth_ofBool_getLsbD]
  cases z.toBitVec.getLsbD 0 <;> rfl
theorem t2_bit {b : Int32} {j : Nat} (hj : j < 32) : (b >>> (Int32.ofNat j &&& 31)) &&& 1 = if t2_bt b j = true then 1 else 0 := by
  have e : (b >>> (Int32.ofNat j &&& 31)).toBitVec.getLsbD 0 = b.toBitVec.getLsbD j := by
    show (b.toBitVec.sshiftRight (((Int32.ofNat j &&& 31).toBitVec.smod 32).toNat)).getLsbD 0 = _
    rw [t2_shn ⟨j, hj⟩, BitVec.getLsbD_sshiftRight, Nat.add_zero, if_pos hj]
    rfl
  rw [t2_and1, e]
  rfl
theorem t2_bit0 {b : Int32} {j : Nat} (hj : j < 32) : ((b >>> (Int32.ofNat j &&& 31)) &&& 1).toInt = 0 ↔ t2_bt b j = false := by
  rw [t2_bit hj]
  cases t2_bt b j
  · exact ⟨fun _ => rfl, fun _ => rfl⟩
  · exact ⟨fun h => absurd h (by decide), fun h => by cases h⟩
theorem t2_has {b : Int32} {j : Nat} (hj : j < 32) : r_has_v b (Int32.ofNat j) = if t2_bt b j = true then 1 else 0 := by
  unfold r_has_v
  rw [t2_bit hj]
  cases t2_bt b j
  · rfl
  · rfl
theorem t2_has0 {b : Int32} {j : Nat} (hj : j < 32) : (r_has_v b (Int32.ofNat j)).toInt = 0 ↔ t2_bt b j = false := by
  rw [t2_has hj]
  cases t2_bt b j
  · exact ⟨fun _ => rfl, fun _ => rfl⟩
  · exact ⟨fun h => absurd h (by decide), fun h => by cases h⟩
theorem t2_bs {i c : Nat} (hi : i < 32) : (1#32 <<< c).getLsbD i = decide (i = c) := by
  rw [BitVec.getLsbD_shiftLeft, BitVec.getLsbD_one]
  by_cases e : i = c
  · subst e
    simp [hi]
  · by_cases l : i < c
    · simp [l, e]
    · have : ¬ i - c = 0 := by omega
      simp [this, e]
theorem t2_bor {b : Int32} {c j : Nat} (hc : c < 32) (hj : j < 32) : t2_bt (b ||| ((1 : Int32) <<< (Int32.ofNat c &&& 31))) j = (t2_bt b j || decide (j = c)) := by
  show (b.toBitVec ||| ((1 : Int32) <<< (Int32.ofNat c &&& 31)).toBitVec).getLsbD j = _
  rw [t2_one ⟨c, hc⟩, BitVec.getLsbD_or, t2_bs hj]
  rfl
theorem t2_anb {x : Int32} {c : Nat} (hc : c < 32) : (x &&& ((1 : Int32) <<< (Int32.ofNat c &&& 31))).toInt = 0 ↔ t2_bt x c = false := by
  have k : (x &&& ((1 : Int32) <<< (Int32.ofNat c &&& 31))).toBitVec = x.toBitVec &&& (1#32 <<< c) := by
    rw [← t2_one ⟨c, hc⟩]
    rfl
  constructor
  · intro h
    have e : x &&& ((1 : Int32) <<< (Int32.ofNat c &&& 31)) = 0 := Int32.toInt.inj h
    have e2 : (x &&& ((1 : Int32) <<< (Int32.ofNat c &&& 31))).toBitVec.getLsbD c = (0 : Int32).toBitVec.getLsbD c := congrArg (fun z : Int32 => z.toBitVec.getLsbD c) e
    rw [k, BitVec.getLsbD_and, t2_bs hc, decide_eq_true rfl, Bool.and_true] at e2
    exact e2.trans (BitVec.getLsbD_zero (w := 32))
  · intro h
    have e : x &&& ((1 : Int32) <<< (Int32.ofNat c &&& 31)) = 0 := by
      apply Int32.toBitVec_inj.mp
      rw [k]
      apply BitVec.eq_of_getLsbD_eq
      intro i hi
      rw [BitVec.getLsbD_and, t2_bs hi]
      by_cases e : i = c
      · subst e
        have h : x.toBitVec.getLsbD i = false := h
        rw [h, Bool.false_and]
        exact (BitVec.getLsbD_zero).symm
      · rw [decide_eq_false e, Bool.and_false]
        exact (BitVec.getLsbD_zero).symm
    rw [e]
    rfl
theorem t2_bt0 {j : Nat} : t2_bt 0 j = false := BitVec.getLsbD_zero
/-- two numbers are the same if the bits are -/
theorem t2_bext {x y : Int32} (h : ∀ j : Nat, j < 32 → t2_bt x j = t2_bt y j) : x = y := by
  apply Int32.toBitVec_inj.mp
  exact BitVec.eq_of_getLsbD_eq (fun i hi => h i hi)

end

/-! 94.01.rshut.lean.txt -/
section
/-! ===== the reference: hold, shuttle by words ===== -/
section RSHUT
variable {f : t2_F} {C : Nat} {c : Int32}
theorem r_hld_1 : r_hold_m f c C 280 (444 + 61 * C + 1) = r_held_v (f 280 (444 + 61 * C + 1)) (0 : Int32) ((3600 : Int32) * f 280 (444 + 61 * C + 0)) := by
  unfold r_hold_m r_full_v
  rw [fl_row_self, upd_ne (by omega), upd_self]
theorem r_hld_4 : r_hold_m f c C 280 (444 + 61 * C + 4) = r_held_v (f 280 (444 + 61 * C + 4)) (0 : Int32) ((3600 : Int32) * f 280 (444 + 61 * C + 0)) := by
  unfold r_hold_m r_full_v
  rw [fl_row_self, upd_self, fl_row_self, upd_ne (by omega)]
theorem r_hld_o {w : Nat} (h1 : w ≠ 444 + 61 * C + 1) (h4 : w ≠ 444 + 61 * C + 4) : r_hold_m f c C 280 w = f 280 w := by
  unfold r_hold_m
  rw [fl_row_self, upd_ne h4, upd_ne h1]
theorem r_hld_p {p : Nat} (h : p ≠ 280) : r_hold_m f c C p = f p := by
  unfold r_hold_m
  rw [fl_row_ne h]
noncomputable def r_sh (f : t2_F) (cA cB : Int32) (A B : Nat) : t2_F := fl_row (r_hold_m (r_hold_m (fl_row f 280 (upd (upd (upd (upd (f 280) (444 + 61 * A + 1) ((f 280 (444 + 61 * A + 1)) - (r_lesser_v (f 280 49) (f 280 (444 + 61 * A + 1))))) (444 + 61 * B + 1) ((f 280 (444 + 61 * B + 1)) + (r_lesser_v (((r_lesser_v (f 280 49) (f 280 (444 + 61 * A + 1))) * (f 280 50)) / (100 : Int32)) (((3600 : Int32) * (f 280 (444 + 61 * B + 0))) - (f 280 (444 + 61 * B + 1)))))) (444 + 61 * A + 4) ((f 280 (444 + 61 * A + 4)) - (r_lesser_v (f 280 49) (f 280 (444 + 61 * A + 1))))) (444 + 61 * B + 4) ((f 280 (444 + 61 * B + 4)) + (r_lesser_v (((r_lesser_v (f 280 49) (f 280 (444 + 61 * A + 1))) * (f 280 50)) / (100 : Int32)) (((3600 : Int32) * (f 280 (444 + 61 * B + 0))) - (f 280 (444 + 61 * B + 1))))))) cA A) cB B) 280 (upd (upd ((r_hold_m (r_hold_m (fl_row f 280 (upd (upd (upd (upd (f 280) (444 + 61 * A + 1) ((f 280 (444 + 61 * A + 1)) - (r_lesser_v (f 280 49) (f 280 (444 + 61 * A + 1))))) (444 + 61 * B + 1) ((f 280 (444 + 61 * B + 1)) + (r_lesser_v (((r_lesser_v (f 280 49) (f 280 (444 + 61 * A + 1))) * (f 280 50)) / (100 : Int32)) (((3600 : Int32) * (f 280 (444 + 61 * B + 0))) - (f 280 (444 + 61 * B + 1)))))) (444 + 61 * A + 4) ((f 280 (444 + 61 * A + 4)) - (r_lesser_v (f 280 49) (f 280 (444 + 61 * A + 1))))) (444 + 61 * B + 4) ((f 280 (444 + 61 * B + 4)) + (r_lesser_v (((r_lesser_v (f 280 49) (f 280 (444 + 61 * A + 1))) * (f 280 50)) / (100 : Int32)) (((3600 : Int32) * (f 280 (444 + 61 * B + 0))) - (f 280 (444 + 61 * B + 1))))))) cA A) cB B) 280) 11 ((f 280 11) + (r_lesser_v (f 280 49) (f 280 (444 + 61 * A + 1))))) 12 ((f 280 12) + ((r_lesser_v (f 280 49) (f 280 (444 + 61 * A + 1))) - (r_lesser_v (((r_lesser_v (f 280 49) (f 280 (444 + 61 * A + 1))) * (f 280 50)) / (100 : Int32)) (((3600 : Int32) * (f 280 (444 + 61 * B + 0))) - (f 280 (444 + 61 * B + 1)))))))
theorem r_shuttle_sh : r_shuttle_m f c C 280 = if (f 280 48).toInt < (r_size_v ((r_partOf_v f c C) - (r_partOf_v f (c + (1 : Int32)) (C + 1)))).toInt then (if 0 < ((r_partOf_v f c C) - (r_partOf_v f (c + (1 : Int32)) (C + 1))).toInt then r_sh f c (c + (1 : Int32)) C (C + 1) 280 else r_sh f (c + (1 : Int32)) c (C + 1) C 280) else f 280 := by
  unfold r_shuttle_m r_sh
  by_cases h1 : (f 280 48).toInt < (r_size_v ((r_partOf_v f c C) - (r_partOf_v f (c + (1 : Int32)) (C + 1)))).toInt
  · rw [if_pos h1, if_pos h1]
    by_cases h2 : 0 < ((r_partOf_v f c C) - (r_partOf_v f (c + (1 : Int32)) (C + 1))).toInt
    · rw [if_pos h2, if_pos h2]
      split
      · split
        · rw [fl_row_ne (by decide : (280 : Nat) ≠ 277)]
        · rw [fl_row_ne (by decide : (280 : Nat) ≠ 277)]
      · rw [fl_row_ne (by decide : (280 : Nat) ≠ 277)]
    · rw [if_neg h2, if_neg h2]
      split
      · split
        · rw [fl_row_ne (by decide : (280 : Nat) ≠ 277)]
        · rw [fl_row_ne (by decide : (280 : Nat) ≠ 277)]
      · rw [fl_row_ne (by decide : (280 : Nat) ≠ 277)]
  · rw [if_neg h1, if_neg h1]
theorem r_sh_w {cA cB : Int32} {A B : Nat} (hAB : A ≠ B) {out inn : Int32} (ho : r_lesser_v (f 280 49) (f 280 (444 + 61 * A + 1)) = out) (hi : r_lesser_v (out * (f 280 50) / (100 : Int32)) (((3600 : Int32) * (f 280 (444 + 61 * B + 0))) - (f 280 (444 + 61 * B + 1))) = inn) :
    (r_sh f cA cB A B 280 (444 + 61 * A + 1) = r_held_v (f 280 (444 + 61 * A + 1) - out) (0 : Int32) ((3600 : Int32) * f 280 (444 + 61 * A + 0)) ∧ r_sh f cA cB A B 280 (444 + 61 * A + 4) = r_held_v (f 280 (444 + 61 * A + 4) - out) (0 : Int32) ((3600 : Int32) * f 280 (444 + 61 * A + 0))) ∧
    (r_sh f cA cB A B 280 (444 + 61 * B + 1) = r_held_v (f 280 (444 + 61 * B + 1) + inn) (0 : Int32) ((3600 : Int32) * f 280 (444 + 61 * B + 0)) ∧ r_sh f cA cB A B 280 (444 + 61 * B + 4) = r_held_v (f 280 (444 + 61 * B + 4) + inn) (0 : Int32) ((3600 : Int32) * f 280 (444 + 61 * B + 0))) ∧
    (∀ w : Nat, w ≠ 11 → w ≠ 12 → w ≠ 444 + 61 * A + 1 → w ≠ 444 + 61 * A + 4 → w ≠ 444 + 61 * B + 1 → w ≠ 444 + 61 * B + 4 → r_sh f cA cB A B 280 w = f 280 w) ∧
    r_sh f cA cB A B 280 11 = f 280 11 + out ∧ r_sh f cA cB A B 280 12 = f 280 12 + (out - inn) := by
  unfold r_sh
  simp only [ho, hi]
  refine ⟨⟨?_, ?_⟩, ⟨?_, ?_⟩, fun w h11 h12 ha1 ha4 hb1 hb4 => ?_, ?_, ?_⟩
  · rw [fl_row_self, upd_ne (by omega), upd_ne (by omega), r_hld_o (by omega) (by omega), r_hld_1]
    simp (disch := omega) only [fl_row_self, upd_self, upd_ne]
  · rw [fl_row_self, upd_ne (by omega), upd_ne (by omega), r_hld_o (by omega) (by omega), r_hld_4]
    simp (disch := omega) only [fl_row_self, upd_self, upd_ne]
  · rw [fl_row_self, upd_ne (by omega), upd_ne (by omega), r_hld_1, r_hld_o (by omega) (by omega), r_hld_o (by omega) (by omega)]
    simp (disch := omega) only [fl_row_self, upd_self, upd_ne]
  · rw [fl_row_self, upd_ne (by omega), upd_ne (by omega), r_hld_4, r_hld_o (by omega) (by omega), r_hld_o (by omega) (by omega)]
    simp (disch := omega) only [fl_row_self, upd_self, upd_ne]
  · rw [fl_row_self, upd_ne h12, upd_ne h11, r_hld_o hb1 hb4, r_hld_o ha1 ha4, fl_row_self, upd_ne hb4, upd_ne ha4, upd_ne hb1, upd_ne ha1]
  · rw [fl_row_self, upd_ne (by decide), upd_self]
  · rw [fl_row_self, upd_self]
end RSHUT

end

/-! 94.02.shut.lean.txt -/
section
/-! ===== block 0: (4) of a second: shuttles ===== -/
section C0SHUT
variable {fc fr F G : t2_F} {C : Nat} {c x : Int32}
theorem c0_tog {f : t2_F} {i : Nat} {x : Int32} : c0_takeOrGive_m f i x (18 + 4 * i) 2 = t2_heldTo_v (f (18 + 4 * i) 2 + x) (0 : Int32) (f (18 + 4 * i) 0 * (3600 : Int32)) ∧
    c0_takeOrGive_m f i x (18 + 4 * i) 3 = t2_partOf_v (c0_takeOrGive_m f i x (18 + 4 * i) 2) (f (18 + 4 * i) 0 * (3600 : Int32)) ∧
    c0_takeOrGive_m f i x (18 + 4 * i) 4 = t2_rb (c0_takeOrGive_m f i x (18 + 4 * i) 3) ∧
    c0_takeOrGive_m f i x (18 + 4 * i) 8 = t2_heldTo_v (f (18 + 4 * i) 8 + x) (0 : Int32) (f (18 + 4 * i) 0 * (3600 : Int32)) ∧
    ∀ j : Nat, j ≠ 2 → j ≠ 3 → j ≠ 4 → j ≠ 8 → c0_takeOrGive_m f i x (18 + 4 * i) j = f (18 + 4 * i) j := by
  unfold c0_takeOrGive_m c0_putReckoned_m c0_putCharge_m
  refine ⟨?_, ?_, ?_, ?_, fun j h2 h3 h4 h8 => ?_⟩ <;> simp (disch := omega) only [fl_row_self, upd_self, upd_ne]
theorem c0_Rc_new (h : c0_Rc fc fr C) (hcap : t2_cap (fc (18 + 4 * C) 0)) (e2 : F (18 + 4 * C) 2 = G 280 (444 + 61 * C + 1)) (e3 : F (18 + 4 * C) 3 = t2_partOf_v (F (18 + 4 * C) 2) (fc (18 + 4 * C) 0 * (3600 : Int32))) (e4 : F (18 + 4 * C) 4 = t2_rb (F (18 + 4 * C) 3)) (e8 : F (18 + 4 * C) 8 = G 280 (444 + 61 * C + 4)) (eo : ∀ j : Nat, j ≠ 2 → j ≠ 3 → j ≠ 4 → j ≠ 8 → F (18 + 4 * C) j = fc (18 + 4 * C) j) (go : ∀ w : Nat, w < 61 → w ≠ 1 → w ≠ 4 → G 280 (444 + 61 * C + w) = fr 280 (444 + 61 * C + w)) : c0_Rc F G C ∧ t2_cap (F (18 + 4 * C) 0) := by
  obtain ⟨⟨h0, h1, h2⟩, ⟨h3, h4⟩, ⟨h5, h6, h7⟩, h8, h9, h18⟩ := h
  have q0 : F (18 + 4 * C) 0 = fc (18 + 4 * C) 0 := eo 0 (by decide) (by decide) (by decide) (by decide)
  have g0 : G 280 (444 + 61 * C + 0) = fr 280 (444 + 61 * C + 0) := go 0 (by decide) (by decide) (by decide)
  have p3 : F (18 + 4 * C) 3 = r_partOf_v G 0 C := by
    unfold r_partOf_v
    rw [g0, ← h0, t2_partAt_eq hcap, e3, e2]
  refine ⟨⟨⟨?_, ?_, e2⟩, ⟨p3, ?_⟩, ⟨?_, ?_, ?_⟩, e8, ?_, ?_⟩, ?_⟩
  · rw [q0, g0, h0]
  · rw [eo 1 (by decide) (by decide) (by decide) (by decide), go 6 (by decide) (by decide) (by decide), h1]
  · rw [e4, p3]
  · rw [eo 5 (by decide) (by decide) (by decide) (by decide), go 2 (by decide) (by decide) (by decide), h5]
  · rw [eo 6 (by decide) (by decide) (by decide) (by decide), go 3 (by decide) (by decide) (by decide), h6]
  · rw [eo 7 (by decide) (by decide) (by decide) (by decide), go 9 (by decide) (by decide) (by decide), h7]
  · rw [eo 9 (by decide) (by decide) (by decide) (by decide), go 5 (by decide) (by decide) (by decide), h9]
  · rw [eo 18 (by decide) (by decide) (by decide) (by decide), go 60 (by decide) (by decide) (by decide), h18]
  · rw [q0]
    exact hcap
/-- a shuttle from the cell A to the cell B: the class -/
noncomputable def c0_sh (f : t2_F) (A B : Nat) : t2_F := fl_row (c0_takeOrGive_m (c0_takeOrGive_m f A (-(t2_min_v (f 4 15) (f (18 + 4 * A) 2)))) B (t2_min_v (((t2_min_v (f 4 15) (f (18 + 4 * A) 2)) * (f 4 16)) / (100 : Int32)) (((f (18 + 4 * B) 0) * (3600 : Int32)) - (f (18 + 4 * B) 2)))) 1 (upd (upd ((c0_takeOrGive_m (c0_takeOrGive_m f A (-(t2_min_v (f 4 15) (f (18 + 4 * A) 2)))) B (t2_min_v (((t2_min_v (f 4 15) (f (18 + 4 * A) 2)) * (f 4 16)) / (100 : Int32)) (((f (18 + 4 * B) 0) * (3600 : Int32)) - (f (18 + 4 * B) 2)))) 1) 14 ((f 1 14) + (t2_min_v (f 4 15) (f (18 + 4 * A) 2)))) 15 ((f 1 15) + ((t2_min_v (f 4 15) (f (18 + 4 * A) 2)) - (t2_min_v (((t2_min_v (f 4 15) (f (18 + 4 * A) 2)) * (f 4 16)) / (100 : Int32)) (((f (18 + 4 * B) 0) * (3600 : Int32)) - (f (18 + 4 * B) 2))))))
theorem c0_shuttle_sh {f : t2_F} {i : Nat} : c0_shuttle_m f i = if (f 4 14).toInt < (t2_abs_v ((f (18 + 4 * i) 3) - (f (18 + 4 * (i + 1)) 3))).toInt then (if (f (18 + 4 * (i + 1)) 3).toInt < (f (18 + 4 * i) 3).toInt then c0_sh f i (i + 1) else c0_sh f (i + 1) i) else f := rfl
theorem c0_sh_w {f : t2_F} {A B : Nat} (hAB : A ≠ B) :
    (c0_sh f A B (18 + 4 * A) 2 = t2_heldTo_v (f (18 + 4 * A) 2 + -(t2_min_v (f 4 15) (f (18 + 4 * A) 2))) (0 : Int32) (f (18 + 4 * A) 0 * (3600 : Int32)) ∧ c0_sh f A B (18 + 4 * A) 3 = t2_partOf_v (c0_sh f A B (18 + 4 * A) 2) (f (18 + 4 * A) 0 * (3600 : Int32)) ∧ c0_sh f A B (18 + 4 * A) 4 = t2_rb (c0_sh f A B (18 + 4 * A) 3) ∧ c0_sh f A B (18 + 4 * A) 8 = t2_heldTo_v (f (18 + 4 * A) 8 + -(t2_min_v (f 4 15) (f (18 + 4 * A) 2))) (0 : Int32) (f (18 + 4 * A) 0 * (3600 : Int32)) ∧ ∀ j : Nat, j ≠ 2 → j ≠ 3 → j ≠ 4 → j ≠ 8 → c0_sh f A B (18 + 4 * A) j = f (18 + 4 * A) j) ∧
    (c0_sh f A B (18 + 4 * B) 2 = t2_heldTo_v (f (18 + 4 * B) 2 + (t2_min_v (((t2_min_v (f 4 15) (f (18 + 4 * A) 2)) * (f 4 16)) / (100 : Int32)) (((f (18 + 4 * B) 0) * (3600 : Int32)) - (f (18 + 4 * B) 2)))) (0 : Int32) (f (18 + 4 * B) 0 * (3600 : Int32)) ∧ c0_sh f A B (18 + 4 * B) 3 = t2_partOf_v (c0_sh f A B (18 + 4 * B) 2) (f (18 + 4 * B) 0 * (3600 : Int32)) ∧ c0_sh f A B (18 + 4 * B) 4 = t2_rb (c0_sh f A B (18 + 4 * B) 3) ∧ c0_sh f A B (18 + 4 * B) 8 = t2_heldTo_v (f (18 + 4 * B) 8 + (t2_min_v (((t2_min_v (f 4 15) (f (18 + 4 * A) 2)) * (f 4 16)) / (100 : Int32)) (((f (18 + 4 * B) 0) * (3600 : Int32)) - (f (18 + 4 * B) 2)))) (0 : Int32) (f (18 + 4 * B) 0 * (3600 : Int32)) ∧ ∀ j : Nat, j ≠ 2 → j ≠ 3 → j ≠ 4 → j ≠ 8 → c0_sh f A B (18 + 4 * B) j = f (18 + 4 * B) j) ∧
    (∀ p : Nat, p ≠ 1 → p ≠ 18 + 4 * A → p ≠ 18 + 4 * B → c0_sh f A B p = f p) ∧
    (∀ j : Nat, j ≠ 14 → j ≠ 15 → c0_sh f A B 1 j = f 1 j) ∧ c0_sh f A B 1 14 = f 1 14 + t2_min_v (f 4 15) (f (18 + 4 * A) 2) ∧ c0_sh f A B 1 15 = f 1 15 + (t2_min_v (f 4 15) (f (18 + 4 * A) 2) - t2_min_v (((t2_min_v (f 4 15) (f (18 + 4 * A) 2)) * (f 4 16)) / (100 : Int32)) (((f (18 + 4 * B) 0) * (3600 : Int32)) - (f (18 + 4 * B) 2))) := by
  generalize hL : t2_min_v (f 4 15) (f (18 + 4 * A) 2) = L
  generalize hM : t2_min_v (L * (f 4 16) / (100 : Int32)) (((f (18 + 4 * B) 0) * (3600 : Int32)) - (f (18 + 4 * B) 2)) = M
  have e : c0_sh f A B = fl_row (c0_takeOrGive_m (c0_takeOrGive_m f A (-L)) B M) 1 (upd (upd ((c0_takeOrGive_m (c0_takeOrGive_m f A (-L)) B M) 1) 14 (f 1 14 + L)) 15 (f 1 15 + (L - M))) := by
    unfold c0_sh
    rw [hL, hM]
  have oth : ∀ p : Nat, p ≠ 18 + 4 * A → p ≠ 18 + 4 * B → c0_takeOrGive_m (c0_takeOrGive_m f A (-L)) B M p = f p := fun p hA hB => by
    rw [c0_takeOrGive_fr (p := p) (i := B) hB, c0_takeOrGive_fr (p := p) (i := A) hA]
  have eA : c0_sh f A B (18 + 4 * A) = c0_takeOrGive_m f A (-L) (18 + 4 * A) := by
    rw [e, fl_row_ne (by omega), c0_takeOrGive_fr (p := 18 + 4 * A) (i := B) (by omega)]
  have eB : c0_sh f A B (18 + 4 * B) = c0_takeOrGive_m (c0_takeOrGive_m f A (-L)) B M (18 + 4 * B) := by
    rw [e, fl_row_ne (by omega)]
  have fB : c0_takeOrGive_m f A (-L) (18 + 4 * B) = f (18 + 4 * B) := c0_takeOrGive_fr (p := 18 + 4 * B) (i := A) (by omega)
  have tA := c0_tog (f := f) (i := A) (x := -L)
  have tB := c0_tog (f := c0_takeOrGive_m f A (-L)) (i := B) (x := M)
  rw [fB] at tB
  rw [eA, eB]
  refine ⟨tA, tB, fun p h1 hA hB => ?_, fun j h14 h15 => ?_, ?_, ?_⟩
  · rw [e, fl_row_ne h1, oth p hA hB]
  · rw [e, fl_row_self, upd_ne h15, upd_ne h14, oth 1 (by omega) (by omega)]
  · rw [e, fl_row_self, upd_ne (by decide), upd_self]
  · rw [e, fl_row_self, upd_self]
end C0SHUT

/-! ===== block 2: (4) of a second: shuttles ===== -/
section C2SHUT
variable {fc fr F G : t2_F} {C : Nat} {c x : Int32}
theorem c2_tog {f : t2_F} {i : Nat} {x : Int32} : c2_takeOrGive_m f i x (198 + 4 * i) 2 = t2_heldTo_v (f (198 + 4 * i) 2 + x) (0 : Int32) (f (198 + 4 * i) 0 * (3600 : Int32)) ∧
    c2_takeOrGive_m f i x (198 + 4 * i) 3 = t2_partOf_v (c2_takeOrGive_m f i x (198 + 4 * i) 2) (f (198 + 4 * i) 0 * (3600 : Int32)) ∧
    c2_takeOrGive_m f i x (198 + 4 * i) 4 = t2_rb (c2_takeOrGive_m f i x (198 + 4 * i) 3) ∧
    c2_takeOrGive_m f i x (198 + 4 * i) 8 = t2_heldTo_v (f (198 + 4 * i) 8 + x) (0 : Int32) (f (198 + 4 * i) 0 * (3600 : Int32)) ∧
    ∀ j : Nat, j ≠ 2 → j ≠ 3 → j ≠ 4 → j ≠ 8 → c2_takeOrGive_m f i x (198 + 4 * i) j = f (198 + 4 * i) j := by
  unfold c2_takeOrGive_m c2_putReckoned_m c2_putCharge_m
  refine ⟨?_, ?_, ?_, ?_, fun j h2 h3 h4 h8 => ?_⟩ <;> simp (disch := omega) only [fl_row_self, upd_self, upd_ne]
theorem c2_Rc_new (h : c2_Rc fc fr C) (hcap : t2_cap (fc (198 + 4 * C) 0)) (e2 : F (198 + 4 * C) 2 = G 280 (444 + 61 * C + 1)) (e3 : F (198 + 4 * C) 3 = t2_partOf_v (F (198 + 4 * C) 2) (fc (198 + 4 * C) 0 * (3600 : Int32))) (e4 : F (198 + 4 * C) 4 = t2_rb (F (198 + 4 * C) 3)) (e8 : F (198 + 4 * C) 8 = G 280 (444 + 61 * C + 4)) (eo : ∀ j : Nat, j ≠ 2 → j ≠ 3 → j ≠ 4 → j ≠ 8 → F (198 + 4 * C) j = fc (198 + 4 * C) j) (go : ∀ w : Nat, w < 61 → w ≠ 1 → w ≠ 4 → G 280 (444 + 61 * C + w) = fr 280 (444 + 61 * C + w)) : c2_Rc F G C ∧ t2_cap (F (198 + 4 * C) 0) := by
  obtain ⟨⟨h0, h1, h2⟩, ⟨h3, h4⟩, ⟨h5, h6, h7⟩, h8, h9, h18⟩ := h
  have q0 : F (198 + 4 * C) 0 = fc (198 + 4 * C) 0 := eo 0 (by decide) (by decide) (by decide) (by decide)
  have g0 : G 280 (444 + 61 * C + 0) = fr 280 (444 + 61 * C + 0) := go 0 (by decide) (by decide) (by decide)
  have p3 : F (198 + 4 * C) 3 = r_partOf_v G 0 C := by
    unfold r_partOf_v
    rw [g0, ← h0, t2_partAt_eq hcap, e3, e2]
  refine ⟨⟨⟨?_, ?_, e2⟩, ⟨p3, ?_⟩, ⟨?_, ?_, ?_⟩, e8, ?_, ?_⟩, ?_⟩
  · rw [q0, g0, h0]
  · rw [eo 1 (by decide) (by decide) (by decide) (by decide), go 6 (by decide) (by decide) (by decide), h1]
  · rw [e4, p3]
  · rw [eo 5 (by decide) (by decide) (by decide) (by decide), go 2 (by decide) (by decide) (by decide), h5]
  · rw [eo 6 (by decide) (by decide) (by decide) (by decide), go 3 (by decide) (by decide) (by decide), h6]
  · rw [eo 7 (by decide) (by decide) (by decide) (by decide), go 9 (by decide) (by decide) (by decide), h7]
  · rw [eo 9 (by decide) (by decide) (by decide) (by decide), go 5 (by decide) (by decide) (by decide), h9]
  · rw [eo 18 (by decide) (by decide) (by decide) (by decide), go 60 (by decide) (by decide) (by decide), h18]
  · rw [q0]
    exact hcap
noncomputable def c2_sh (f : t2_F) (A B : Nat) : t2_F := fl_row (c2_takeOrGive_m (c2_takeOrGive_m f A (-(t2_min_v (f 184 15) (f (198 + 4 * A) 2)))) B (t2_min_v (((t2_min_v (f 184 15) (f (198 + 4 * A) 2)) * (f 184 16)) / (100 : Int32)) (((f (198 + 4 * B) 0) * (3600 : Int32)) - (f (198 + 4 * B) 2)))) 181 (upd (upd ((c2_takeOrGive_m (c2_takeOrGive_m f A (-(t2_min_v (f 184 15) (f (198 + 4 * A) 2)))) B (t2_min_v (((t2_min_v (f 184 15) (f (198 + 4 * A) 2)) * (f 184 16)) / (100 : Int32)) (((f (198 + 4 * B) 0) * (3600 : Int32)) - (f (198 + 4 * B) 2)))) 181) 14 ((f 181 14) + (t2_min_v (f 184 15) (f (198 + 4 * A) 2)))) 15 ((f 181 15) + ((t2_min_v (f 184 15) (f (198 + 4 * A) 2)) - (t2_min_v (((t2_min_v (f 184 15) (f (198 + 4 * A) 2)) * (f 184 16)) / (100 : Int32)) (((f (198 + 4 * B) 0) * (3600 : Int32)) - (f (198 + 4 * B) 2))))))
theorem c2_shuttle_sh {f : t2_F} {i : Nat} : c2_shuttle_m f i = if (f 184 14).toInt < (t2_abs_v ((f (198 + 4 * i) 3) - (f (198 + 4 * (i + 1)) 3))).toInt then (if (f (198 + 4 * (i + 1)) 3).toInt < (f (198 + 4 * i) 3).toInt then c2_sh f i (i + 1) else c2_sh f (i + 1) i) else f := rfl
theorem c2_sh_w {f : t2_F} {A B : Nat} (hAB : A ≠ B) :
    (c2_sh f A B (198 + 4 * A) 2 = t2_heldTo_v (f (198 + 4 * A) 2 + -(t2_min_v (f 184 15) (f (198 + 4 * A) 2))) (0 : Int32) (f (198 + 4 * A) 0 * (3600 : Int32)) ∧ c2_sh f A B (198 + 4 * A) 3 = t2_partOf_v (c2_sh f A B (198 + 4 * A) 2) (f (198 + 4 * A) 0 * (3600 : Int32)) ∧ c2_sh f A B (198 + 4 * A) 4 = t2_rb (c2_sh f A B (198 + 4 * A) 3) ∧ c2_sh f A B (198 + 4 * A) 8 = t2_heldTo_v (f (198 + 4 * A) 8 + -(t2_min_v (f 184 15) (f (198 + 4 * A) 2))) (0 : Int32) (f (198 + 4 * A) 0 * (3600 : Int32)) ∧ ∀ j : Nat, j ≠ 2 → j ≠ 3 → j ≠ 4 → j ≠ 8 → c2_sh f A B (198 + 4 * A) j = f (198 + 4 * A) j) ∧
    (c2_sh f A B (198 + 4 * B) 2 = t2_heldTo_v (f (198 + 4 * B) 2 + (t2_min_v (((t2_min_v (f 184 15) (f (198 + 4 * A) 2)) * (f 184 16)) / (100 : Int32)) (((f (198 + 4 * B) 0) * (3600 : Int32)) - (f (198 + 4 * B) 2)))) (0 : Int32) (f (198 + 4 * B) 0 * (3600 : Int32)) ∧ c2_sh f A B (198 + 4 * B) 3 = t2_partOf_v (c2_sh f A B (198 + 4 * B) 2) (f (198 + 4 * B) 0 * (3600 : Int32)) ∧ c2_sh f A B (198 + 4 * B) 4 = t2_rb (c2_sh f A B (198 + 4 * B) 3) ∧ c2_sh f A B (198 + 4 * B) 8 = t2_heldTo_v (f (198 + 4 * B) 8 + (t2_min_v (((t2_min_v (f 184 15) (f (198 + 4 * A) 2)) * (f 184 16)) / (100 : Int32)) (((f (198 + 4 * B) 0) * (3600 : Int32)) - (f (198 + 4 * B) 2)))) (0 : Int32) (f (198 + 4 * B) 0 * (3600 : Int32)) ∧ ∀ j : Nat, j ≠ 2 → j ≠ 3 → j ≠ 4 → j ≠ 8 → c2_sh f A B (198 + 4 * B) j = f (198 + 4 * B) j) ∧
    (∀ p : Nat, p ≠ 181 → p ≠ 198 + 4 * A → p ≠ 198 + 4 * B → c2_sh f A B p = f p) ∧
    (∀ j : Nat, j ≠ 14 → j ≠ 15 → c2_sh f A B 181 j = f 181 j) ∧ c2_sh f A B 181 14 = f 181 14 + t2_min_v (f 184 15) (f (198 + 4 * A) 2) ∧ c2_sh f A B 181 15 = f 181 15 + (t2_min_v (f 184 15) (f (198 + 4 * A) 2) - t2_min_v (((t2_min_v (f 184 15) (f (198 + 4 * A) 2)) * (f 184 16)) / (100 : Int32)) (((f (198 + 4 * B) 0) * (3600 : Int32)) - (f (198 + 4 * B) 2))) := by
  generalize hL : t2_min_v (f 184 15) (f (198 + 4 * A) 2) = L
  generalize hM : t2_min_v (L * (f 184 16) / (100 : Int32)) (((f (198 + 4 * B) 0) * (3600 : Int32)) - (f (198 + 4 * B) 2)) = M
  have e : c2_sh f A B = fl_row (c2_takeOrGive_m (c2_takeOrGive_m f A (-L)) B M) 181 (upd (upd ((c2_takeOrGive_m (c2_takeOrGive_m f A (-L)) B M) 181) 14 (f 181 14 + L)) 15 (f 181 15 + (L - M))) := by
    unfold c2_sh
    rw [hL, hM]
  have oth : ∀ p : Nat, p ≠ 198 + 4 * A → p ≠ 198 + 4 * B → c2_takeOrGive_m (c2_takeOrGive_m f A (-L)) B M p = f p := fun p hA hB => by
    rw [c2_takeOrGive_fr (p := p) (i := B) hB, c2_takeOrGive_fr (p := p) (i := A) hA]
  have eA : c2_sh f A B (198 + 4 * A) = c2_takeOrGive_m f A (-L) (198 + 4 * A) := by
    rw [e, fl_row_ne (by omega), c2_takeOrGive_fr (p := 198 + 4 * A) (i := B) (by omega)]
  have eB : c2_sh f A B (198 + 4 * B) = c2_takeOrGive_m (c2_takeOrGive_m f A (-L)) B M (198 + 4 * B) := by
    rw [e, fl_row_ne (by omega)]
  have fB : c2_takeOrGive_m f A (-L) (198 + 4 * B) = f (198 + 4 * B) := c2_takeOrGive_fr (p := 198 + 4 * B) (i := A) (by omega)
  have tA := c2_tog (f := f) (i := A) (x := -L)
  have tB := c2_tog (f := c2_takeOrGive_m f A (-L)) (i := B) (x := M)
  rw [fB] at tB
  rw [eA, eB]
  refine ⟨tA, tB, fun p h1 hA hB => ?_, fun j h14 h15 => ?_, ?_, ?_⟩
  · rw [e, fl_row_ne h1, oth p hA hB]
  · rw [e, fl_row_self, upd_ne h15, upd_ne h14, oth 181 (by omega) (by omega)]
  · rw [e, fl_row_self, upd_ne (by decide), upd_self]
  · rw [e, fl_row_self, upd_self]
end C2SHUT

end

/-! 94.03.nx.lean.txt -/
section
/-! ===== shunts: the next one, sums over bits, the reference's rounds ===== -/
noncomputable def t2_nx (p : Nat → Int32) (b x : Int32) : Nat → Int32
  | 0 => (-1 : Int32)
  | k + 1 => if (r_has_v b (Int32.ofNat k)).toInt = 0 then (if x.toInt < (p k).toInt then (if (t2_nx p b x k).toInt = (-1 : Int32).toInt then Int32.ofNat k else (if (p ((t2_nx p b x k).toInt.toNat)).toInt < (p k).toInt then Int32.ofNat k else t2_nx p b x k)) else t2_nx p b x k) else t2_nx p b x k
theorem r_nx {f : t2_F} {x : Int32} : ∀ n : Nat, r_nextShunt_a4 f x n = t2_nx (f 282) (f 280 13) x n := by
  intro n
  induction n with
  | zero => rfl
  | succ n ih =>
    unfold r_nextShunt_a4 t2_nx
    rw [ih]
theorem t2_nx_in {p : Nat → Int32} {b x : Int32} : ∀ n : Nat, n ≤ 16 → t2_nx p b x n = (-1 : Int32) ∨ ∃ j : Nat, j < n ∧ t2_nx p b x n = Int32.ofNat j ∧ t2_bt b j = false ∧ x.toInt < (p j).toInt := by
  intro n
  induction n with
  | zero => intro _; exact Or.inl rfl
  | succ n ih =>
    intro hn
    have keep : t2_nx p b x n = (-1 : Int32) ∨ ∃ j : Nat, j < n + 1 ∧ t2_nx p b x n = Int32.ofNat j ∧ t2_bt b j = false ∧ x.toInt < (p j).toInt := by
      rcases ih (by omega) with h | ⟨j, h1, h2⟩
      · exact Or.inl h
      · exact Or.inr ⟨j, by omega, h2⟩
    unfold t2_nx
    by_cases hb : (r_has_v b (Int32.ofNat n)).toInt = 0
    · rw [if_pos hb]
      have hb2 := (t2_has0 (by omega)).mp hb
      by_cases hx : x.toInt < (p n).toInt
      · rw [if_pos hx]
        split
        · exact Or.inr ⟨n, by omega, rfl, hb2, hx⟩
        · split
          · exact Or.inr ⟨n, by omega, rfl, hb2, hx⟩
          · exact keep
      · rw [if_neg hx]
        exact keep
    · rw [if_neg hb]
      exact keep
/-- a sum over the bits that are set -/
def t2_sb (b : Int32) (v : Nat → Int32) : Nat → Int32
  | 0 => 0
  | n + 1 => t2_sb b v n + (if t2_bt b n = true then v n else 0)
theorem t2_sb_z {b : Int32} {v : Nat → Int32} : t2_sb b v 0 = 0 := rfl
theorem t2_sb0 {v : Nat → Int32} : ∀ n : Nat, t2_sb 0 v n = 0 := by
  intro n
  induction n with
  | zero => rfl
  | succ n ih =>
    unfold t2_sb
    rw [ih, if_neg (by rw [t2_bt0]; exact Bool.false_ne_true)]
    rfl
theorem t2_sb_add {b : Int32} {v : Nat → Int32} {c : Nat} (hc : c < 32) (hb : t2_bt b c = false) : ∀ n : Nat, n ≤ 32 → t2_sb (b ||| ((1 : Int32) <<< (Int32.ofNat c &&& 31))) v n = if c < n then t2_sb b v n + v c else t2_sb b v n := by
  intro n
  induction n with
  | zero => intro _; rfl
  | succ n ih =>
    intro hn
    have ih := ih (by omega)
    unfold t2_sb
    rw [ih, t2_bor hc (by omega)]
    by_cases e : n = c
    · subst e
      rw [if_neg (Nat.lt_irrefl n), if_pos (show n < n + 1 by omega), hb, if_pos (by simp), if_neg Bool.false_ne_true, Int32.add_zero]
    · rw [decide_eq_false e, Bool.or_false]
      by_cases l : c < n
      · rw [if_pos l, if_pos (show c < n + 1 by omega), Int32.add_assoc, Int32.add_comm (v c), ← Int32.add_assoc]
      · rw [if_neg l, if_neg (show ¬ c < n + 1 by omega)]
section RNX
variable {f : t2_F} {a a0 : Int32} {X k j n : Nat}
theorem r_b81_w (hj : j < 16) {by_ : Int32} (hb : r_lesser_v (f 280 46) (f 280 (444 + 61 * j + 1)) = by_) :
    (r_shuntAll_b81_m f a X (Int32.ofNat j) k 280 (444 + 61 * j + 1) = r_held_v (f 280 (444 + 61 * j + 1) - by_) (0 : Int32) ((3600 : Int32) * f 280 (444 + 61 * j + 0)) ∧ r_shuntAll_b81_m f a X (Int32.ofNat j) k 280 (444 + 61 * j + 4) = r_held_v (f 280 (444 + 61 * j + 4) - f 280 46) (0 : Int32) ((3600 : Int32) * f 280 (444 + 61 * j + 0))) ∧
    (∀ w : Nat, w ≠ 8 → w ≠ 10 → w ≠ 13 → w ≠ 444 + 61 * j + 1 → w ≠ 444 + 61 * j + 4 → r_shuntAll_b81_m f a X (Int32.ofNat j) k 280 w = f 280 w) ∧
    r_shuntAll_b81_m f a X (Int32.ofNat j) k 280 8 = f 280 8 + (3 : Int32) ∧ r_shuntAll_b81_m f a X (Int32.ofNat j) k 280 10 = f 280 10 + by_ ∧ r_shuntAll_b81_m f a X (Int32.ofNat j) k 280 13 = f 280 13 ||| ((1 : Int32) <<< (Int32.ofNat j &&& 31)) ∧ r_shuntAll_b81_m f a X (Int32.ofNat j) k 282 = f 282 := by
  have e : (Int32.ofNat j).toInt.toNat = j := by rw [at_ofN (by omega)]; exact Int.toNat_natCast j
  unfold r_shuntAll_b81_m
  simp only [e, hb]
  generalize hM : r_hold_m (fl_row f 280 (upd (upd (f 280) (444 + 61 * j + 1) (f 280 (444 + 61 * j + 1) - by_)) (444 + 61 * j + 4) (f 280 (444 + 61 * j + 4) - f 280 46))) (Int32.ofNat j) j = M
  have m1 : M 280 (444 + 61 * j + 1) = r_held_v (f 280 (444 + 61 * j + 1) - by_) (0 : Int32) ((3600 : Int32) * f 280 (444 + 61 * j + 0)) := by
    rw [← hM, r_hld_1]
    simp (disch := omega) only [fl_row_self, upd_self, upd_ne]
  have m4 : M 280 (444 + 61 * j + 4) = r_held_v (f 280 (444 + 61 * j + 4) - f 280 46) (0 : Int32) ((3600 : Int32) * f 280 (444 + 61 * j + 0)) := by
    rw [← hM, r_hld_4]
    simp (disch := omega) only [fl_row_self, upd_self, upd_ne]
  have mo : ∀ w : Nat, w ≠ 444 + 61 * j + 1 → w ≠ 444 + 61 * j + 4 → M 280 w = f 280 w := fun w h1 h4 => by
    rw [← hM, r_hld_o h1 h4, fl_row_self, upd_ne h4, upd_ne h1]
  have mp : M 282 = f 282 := by
    rw [← hM, r_hld_p (by decide), fl_row_ne (by decide)]
  refine ⟨⟨?_, ?_⟩, fun w h8 h10 h13 h1 h4 => ?_, ?_, ?_, ?_, ?_⟩
  · rw [fl_row_ne (by decide), fl_row_self, upd_ne (by omega), upd_ne (by omega), upd_ne (by omega), m1]
  · rw [fl_row_ne (by decide), fl_row_self, upd_ne (by omega), upd_ne (by omega), upd_ne (by omega), m4]
  · rw [fl_row_ne (by decide), fl_row_self, upd_ne h13, upd_ne h8, upd_ne h10, mo w h1 h4]
  · rw [fl_row_ne (by decide), fl_row_self, upd_ne (by decide), upd_self]
  · rw [fl_row_ne (by decide), fl_row_self, upd_ne (by decide), upd_ne (by decide), upd_self]
  · rw [fl_row_ne (by decide), fl_row_self, upd_self]
  · rw [fl_row_ne (by decide), fl_row_ne (by decide), mp]
/-- what the reference's rounds have left -/
def r_SI (g0 G : t2_F) (n : Nat) : Prop :=
  (∀ C : Nat, C < n → G 282 C = r_partOf_v g0 0 C) ∧
  (∀ C : Nat, C < n → (t2_bt (G 280 13) C = true → G 280 (444 + 61 * C + 1) = r_held_v (g0 280 (444 + 61 * C + 1) - r_lesser_v (g0 280 46) (g0 280 (444 + 61 * C + 1))) (0 : Int32) ((3600 : Int32) * g0 280 (444 + 61 * C + 0)) ∧ G 280 (444 + 61 * C + 4) = r_held_v (g0 280 (444 + 61 * C + 4) - g0 280 46) (0 : Int32) ((3600 : Int32) * g0 280 (444 + 61 * C + 0))) ∧ (t2_bt (G 280 13) C = false → G 280 (444 + 61 * C + 1) = g0 280 (444 + 61 * C + 1) ∧ G 280 (444 + 61 * C + 4) = g0 280 (444 + 61 * C + 4))) ∧
  (∀ w : Nat, w ≠ 8 → w ≠ 10 → w ≠ 13 → (∀ C : Nat, C < n → w ≠ 444 + 61 * C + 1 ∧ w ≠ 444 + 61 * C + 4) → G 280 w = g0 280 w) ∧
  G 280 8 = g0 280 8 + t2_sb (G 280 13) (fun _ => (3 : Int32)) n ∧ G 280 10 = g0 280 10 + t2_sb (G 280 13) (fun C => r_lesser_v (g0 280 46) (g0 280 (444 + 61 * C + 1))) n
theorem r_SI_step {g0 G : t2_F} (hn : n ≤ 16) (h : r_SI g0 G n) (hj : j < n) (hb : t2_bt (G 280 13) j = false) : r_SI g0 (r_shuntAll_b81_m G a X (Int32.ofNat j) k) n := by
  obtain ⟨h1, h2, h3, h4, h5⟩ := h
  obtain ⟨⟨w1, w4⟩, wo, w8, w10, w13, wp⟩ := r_b81_w (f := G) (a := a) (X := X) (k := k) (j := j) (by omega) rfl
  have k46 : G 280 46 = g0 280 46 := h3 46 (by decide) (by decide) (by decide) (fun C hC => ⟨by omega, by omega⟩)
  have k0 : ∀ C : Nat, C < n → G 280 (444 + 61 * C + 0) = g0 280 (444 + 61 * C + 0) := fun C hC => h3 _ (by omega) (by omega) (by omega) (fun D hD => ⟨by omega, by omega⟩)
  obtain ⟨j1, j4⟩ := (h2 j hj).2 hb
  have bits : ∀ C : Nat, C < n → t2_bt (G 280 13 ||| ((1 : Int32) <<< (Int32.ofNat j &&& 31))) C = (t2_bt (G 280 13) C || decide (C = j)) := fun C hC => t2_bor (by omega) (by omega)
  refine ⟨fun C hC => by rw [wp]; exact h1 C hC, fun C hC => ?_, fun w a8 a10 a13 ac => ?_, ?_, ?_⟩
  · rw [w13, bits C hC]
    by_cases e : C = j
    · subst e
      refine ⟨fun _ => ⟨?_, ?_⟩, fun hf => ?_⟩
      · rw [w1, k46, j1, k0 C hC]
      · rw [w4, k46, j4, k0 C hC]
      · rw [decide_eq_true rfl, Bool.or_true] at hf
        cases hf
    · rw [decide_eq_false e, Bool.or_false, wo _ (by omega) (by omega) (by omega) (by omega) (by omega), wo _ (by omega) (by omega) (by omega) (by omega) (by omega)]
      exact h2 C hC
  · rw [wo w a8 a10 a13 (ac j hj).1 (ac j hj).2]
    exact h3 w a8 a10 a13 ac
  · rw [w13, t2_sb_add (by omega) hb n (by omega), if_pos hj, w8, h4, Int32.add_assoc]
  · rw [w13, t2_sb_add (by omega) hb n (by omega), if_pos hj, w10, h5, k46, j1, Int32.add_assoc]
/-- the reference's choice at each round -/
theorem r_shunt_a {g0 : t2_F} (k : Nat) (hk : k ≤ (r_shuntAll_j24_0 g0).toInt.toNat) : r_shuntAll_a81_0 g0 k = if k < (r_shuntAll_j24_0 g0).toInt.toNat then r_nextShunt_v (r_shuntAll_f81 g0 k) ((r_leastPart_v g0) + (g0 280 48)) else (-1 : Int32) := by
  cases k with
  | zero =>
    show r_shuntAll_j68_0 g0 = if _ then r_nextShunt_v (r_shuntAll_f40 g0 ((g0 280 2).toInt.toNat)) _ else _
    unfold r_shuntAll_j68_0
    by_cases h : 0 < (r_shuntAll_j24_0 g0).toInt
    · rw [if_pos h, if_pos (by omega)]
    · rw [if_neg h, if_neg (by omega)]
  | succ k =>
    have b := at_i32 (r_shuntAll_j24_0 g0)
    rw [r_shuntAll_aS, r_shuntAll_fS]
    show (if 0 < ((Int32.ofNat ((r_shuntAll_j24_0 g0).toInt.toNat - k)) + (-1 : Int32)).toInt then r_nextShunt_v (r_shuntAll_b81_m (r_shuntAll_f81 g0 k) ((r_leastPart_v g0) + (g0 280 48)) ((r_shuntAll_j24_0 g0).toInt.toNat) (r_shuntAll_a81_0 g0 k) k) ((r_leastPart_v g0) + (g0 280 48)) else (-1 : Int32)) = _
    rw [← t2_kd (by omega), at_ofN (by omega)]
    by_cases h : k + 1 < (r_shuntAll_j24_0 g0).toInt.toNat
    · rw [if_pos h, if_pos (by omega)]
    · rw [if_neg h, if_neg (by omega)]
theorem r_shunt_0 {g0 : t2_F} (hn : (g0 280 2).toInt.toNat = n) (hn16 : n ≤ 16) (h13 : g0 280 13 = 0) : r_SI g0 (r_shuntAll_f81 g0 0) n := by
  have e : r_shuntAll_f81 g0 0 = r_shuntAll_f40 g0 n := by
    unfold r_shuntAll_f81 r_shuntAll_l81
    rw [hn]
  have e280 : ∀ k : Nat, r_shuntAll_f40 g0 k 280 = g0 280 := fun k => r_shuntAll_f40_fr (k := k) (p := 280) (fun j hj => by decide)
  have e282 : ∀ k : Nat, ∀ C : Nat, C < k → r_shuntAll_f40 g0 k 282 C = r_partOf_v g0 0 C := by
    intro k
    induction k with
    | zero => intro C h; exact absurd h (Nat.not_lt_zero _)
    | succ k ih =>
      intro C h
      show r_shuntAll_b40_m (r_shuntAll_f40 g0 k) _ _ k 282 C = _
      unfold r_shuntAll_b40_m
      rw [fl_row_self]
      by_cases e : C = k
      · subst e
        rw [upd_self]
        unfold r_partOf_v
        rw [e280]
      · rw [upd_ne e]
        exact ih C (by omega)
  rw [e]
  refine ⟨fun C hC => e282 n C hC, fun C hC => ?_, fun w _ _ _ _ => by rw [e280], ?_, ?_⟩
  · rw [e280, h13, t2_bt0]
    exact ⟨fun h => (Bool.false_ne_true h).elim, fun _ => ⟨rfl, rfl⟩⟩
  · rw [e280, h13, t2_sb0, Int32.add_zero]
  · rw [e280, h13, t2_sb0, Int32.add_zero]
end RNX

end

/-! 94.04.shun.lean.txt -/
section
/-! ===== block 0: (4) of a second: shunts ===== -/
section C0SHUN
variable {fc fr g0 F G : t2_F} {C n X : Nat} {x y a above : Int32}
theorem c0_nx {p : Nat → Int32} (hp : ∀ k : Nat, k < n → fc (18 + 4 * k) 3 = p k) (hn : n ≤ 16) : ∀ m : Nat, m ≤ n → (c0_greatestAbove_a8 fc x y m).1 = t2_nx p y x m ∧ (c0_greatestAbove_a8 fc x y m).2 = if (t2_nx p y x m).toInt = (-1 : Int32).toInt then x else p ((t2_nx p y x m).toInt.toNat) := by
  have m1 : (-1 : Int32).toInt = -1 := by decide +kernel
  intro m
  induction m with
  | zero => intro _; exact ⟨rfl, (if_pos rfl).symm⟩
  | succ m ih =>
    intro hm
    obtain ⟨i1, i2⟩ := ih (by omega)
    have em : (Int32.ofNat m).toInt = m := at_ofN (by omega)
    have emn : (Int32.ofNat m).toInt.toNat = m := by omega
    unfold c0_greatestAbove_a8 t2_nx
    rw [i1, i2, hp m (by omega)]
    by_cases hb : t2_bt y m = false
    · have c1 : ((y >>> (Int32.ofNat m &&& 31)) &&& (1 : Int32)).toInt = 0 := (t2_bit0 (by omega)).mpr hb
      have c2 : (r_has_v y (Int32.ofNat m)).toInt = 0 := (t2_has0 (by omega)).mpr hb
      simp only [if_pos c1, if_pos c2]
      rcases t2_nx_in (p := p) (b := y) (x := x) m (by omega) with h | ⟨j, j1, j2, j3, j4⟩
      · rw [h]
        simp only [if_true]
        by_cases hx : x.toInt < (p m).toInt
        · simp only [if_pos hx]
          exact ⟨trivial, by rw [if_neg (by omega), emn]⟩
        · simp only [if_neg hx]
          exact ⟨trivial, (if_pos trivial).symm⟩
      · have ej : (Int32.ofNat j).toInt = j := at_ofN (by omega)
        have ejn : (Int32.ofNat j).toInt.toNat = j := by omega
        have nj : ¬ (Int32.ofNat j).toInt = (-1 : Int32).toInt := by omega
        rw [j2]
        simp only [if_neg nj, ejn]
        by_cases hx : (p j).toInt < (p m).toInt
        · simp only [if_pos hx, if_pos (show x.toInt < (p m).toInt by omega)]
          exact ⟨trivial, by rw [if_neg (by omega), emn]⟩
        · simp only [if_neg hx, ite_self]
          exact ⟨trivial, by rw [if_neg nj, ejn]⟩
    · have c1 : ¬ ((y >>> (Int32.ofNat m &&& 31)) &&& (1 : Int32)).toInt = 0 := fun h => hb ((t2_bit0 (by omega)).mp h)
      have c2 : ¬ (r_has_v y (Int32.ofNat m)).toInt = 0 := fun h => hb ((t2_has0 (by omega)).mp h)
      simp only [if_neg c1, if_neg c2]
      exact ⟨trivial, trivial⟩
theorem c0_rowrow {f : t2_F} {p k : Nat} {v v' : Int32} : fl_row (fl_row f p (upd (f p) k v)) p (upd ((fl_row f p (upd (f p) k v)) p) k v') = fl_row f p (upd (f p) k v') := by
  funext q j
  by_cases h : q = p
  · subst h
    simp only [fl_row_self]
    unfold upd
    by_cases e : j = k
    · simp only [if_pos e]
    · simp only [if_neg e]
  · rw [fl_row_ne h, fl_row_ne h, fl_row_ne h]
theorem c0_rowid {f : t2_F} {p k : Nat} {v : Int32} (h : f p k = v) : fl_row f p (upd (f p) k v) = f := by
  subst h
  funext q j
  by_cases h : q = p
  · subst h
    rw [fl_row_self]
    unfold upd
    by_cases e : j = k
    · rw [if_pos e, e]
    · rw [if_neg e]
  · rw [fl_row_ne h]
/-- the class's choice, with the bits b so far -/
theorem c0_ga {b : Int32} {p : Nat → Int32} (hc : (fc 1 5).toInt.toNat = n) (hn : n ≤ 16) (hp : ∀ k : Nat, k < n → fc (18 + 4 * k) 3 = p k) : c0_greatestAbove_v (fl_row fc 1 (upd (fc 1) 16 b)) x b = t2_nx p b x n := by
  unfold c0_greatestAbove_v
  rw [fl_row_self, upd_ne (by decide : 5 ≠ 16), hc]
  exact (c0_nx (fc := fl_row fc 1 (upd (fc 1) 16 b)) (p := p) (fun k hk => by rw [fl_row_ne (by omega)]; exact hp k hk) hn n (Nat.le_refl n)).1
theorem r_shunt_013 : r_shuntAll_f81 g0 0 280 = g0 280 := by
  unfold r_shuntAll_f81 r_shuntAll_l81
  exact r_shuntAll_f40_fr (p := 280) (fun j hj => by decide)
theorem c0_sync (hc : (fc 1 5).toInt.toNat = n) (hn : n ≤ 16) (hg : (g0 280 2).toInt.toNat = n) (hp : ∀ C : Nat, C < n → fc (18 + 4 * C) 3 = r_partOf_v g0 0 C) (h16 : fc 1 16 = 0) (h13 : g0 280 13 = 0) (hX : (r_shuntAll_j24_0 g0).toInt.toNat = X) (hab : (r_leastPart_v g0) + (g0 280 48) = above) : ∀ k : Nat, k ≤ r_shuntAll_R g0 → r_SI g0 (r_shuntAll_f81 g0 k) n ∧ t2_wf (fun f' => c0_shuntCells_g49 f' a above) X fc = t2_wf (fun f' => c0_shuntCells_g49 f' a above) (X - k) (fl_row fc 1 (upd (fc 1) 16 (r_shuntAll_f81 g0 k 280 13))) := by
  have m1 : (-1 : Int32).toInt = -1 := by decide +kernel
  have hRX : r_shuntAll_R g0 ≤ X := by rw [← hX]; exact t2_fst_le _ _
  intro k
  induction k with
  | zero =>
    intro _
    refine ⟨r_shunt_0 hg hn h13, ?_⟩
    rw [r_shunt_013, c0_rowid (h16.trans h13.symm)]
    rfl
  | succ k ih =>
    intro hk
    obtain ⟨i1, i2⟩ := ih (by omega)
    have ha := r_shunt_a (g0 := g0) k (by omega)
    rw [if_pos (by omega), hab] at ha
    have hne := r_shuntAll_kt (f := g0) (k := k) (by omega)
    have h2 : r_shuntAll_f81 g0 k 280 2 = g0 280 2 := i1.2.2.1 2 (by decide) (by decide) (by decide) (fun C hC => ⟨by omega, by omega⟩)
    have hv : r_nextShunt_v (r_shuntAll_f81 g0 k) above = t2_nx (r_shuntAll_f81 g0 k 282) (r_shuntAll_f81 g0 k 280 13) above n := by
      unfold r_nextShunt_v
      rw [h2, hg, r_nx]
    rw [ha, hv] at hne
    rcases t2_nx_in (p := r_shuntAll_f81 g0 k 282) (b := r_shuntAll_f81 g0 k 280 13) (x := above) n hn with h | ⟨j, j1, j2, j3, j4⟩
    · rw [h] at hne
      exact absurd rfl hne
    · have ej : (Int32.ofNat j).toInt = j := at_ofN (by omega)
      have ea : r_shuntAll_a81_0 g0 k = Int32.ofNat j := by rw [ha, hv, j2]
      have eS : r_shuntAll_f81 g0 (k + 1) = r_shuntAll_b81_m (r_shuntAll_f81 g0 k) ((r_leastPart_v g0) + (g0 280 48)) ((r_shuntAll_j24_0 g0).toInt.toNat) (Int32.ofNat j) k := by rw [r_shuntAll_fS, ea]
      have w13 := (r_b81_w (f := r_shuntAll_f81 g0 k) (a := (r_leastPart_v g0) + (g0 280 48)) (X := (r_shuntAll_j24_0 g0).toInt.toNat) (k := k) (j := j) (by omega) rfl).2.2.2.2.1
      refine ⟨by rw [eS]; exact r_SI_step hn i1 j1 j3, ?_⟩
      rw [i2, show X - k = (X - (k + 1)) + 1 by omega]
      have eg : c0_shuntCells_g49 (fl_row fc 1 (upd (fc 1) 16 (r_shuntAll_f81 g0 k 280 13))) a above = some (fl_row fc 1 (upd (fc 1) 16 (r_shuntAll_f81 g0 (k + 1) 280 13))) := by
        unfold c0_shuntCells_g49
        rw [fl_row_self, upd_self, c0_ga hc hn (fun C hC => (hp C hC).trans (i1.1 C hC).symm), j2, if_neg (by omega), eS, w13]
        congr 1
        have rr := c0_rowrow (f := fc) (p := 1) (k := 16) (v := r_shuntAll_f81 g0 k 280 13) (v' := r_shuntAll_f81 g0 k 280 13 ||| ((1 : Int32) <<< (Int32.ofNat j &&& 31)))
        rw [fl_row_self] at rr
        exact rr
      show (match c0_shuntCells_g49 (fl_row fc 1 (upd (fc 1) 16 (r_shuntAll_f81 g0 k 280 13))) a above with | none => _ | some f' => t2_wf _ (X - (k + 1)) f') = _
      rw [eg]
theorem c0_chosen (hc : (fc 1 5).toInt.toNat = n) (hn : n ≤ 16) (hg : (g0 280 2).toInt.toNat = n) (hp : ∀ C : Nat, C < n → fc (18 + 4 * C) 3 = r_partOf_v g0 0 C) (h16 : fc 1 16 = 0) (h13 : g0 280 13 = 0) (hX : (r_shuntAll_j24_0 g0).toInt.toNat = X) (hab : (r_leastPart_v g0) + (g0 280 48) = above) (ho : 0 ≤ (g0 280 47).toInt ∧ (g0 280 47).toInt ≤ 16) : r_SI g0 (r_shuntAll_m g0) n ∧ t2_wf (fun f' => c0_shuntCells_g49 f' a above) X fc = fl_row fc 1 (upd (fc 1) 16 (r_shuntAll_m g0 280 13)) := by
  have hRX : r_shuntAll_R g0 ≤ X := by rw [← hX]; exact t2_fst_le _ _
  obtain ⟨i1, i2⟩ := c0_sync (a := a) hc hn hg hp h16 h13 hX hab (r_shuntAll_R g0) (Nat.le_refl _)
  refine ⟨i1, i2.trans ?_⟩
  show _ = fl_row fc 1 (upd (fc 1) 16 (r_shuntAll_f81 g0 (r_shuntAll_R g0) 280 13))
  by_cases hR : r_shuntAll_R g0 = X
  · rw [hR, Nat.sub_self]
    rfl
  · have hl := r_shuntAll_kf (f := g0) ho
    rw [r_shunt_a (g0 := g0) (r_shuntAll_R g0) (by omega), if_pos (by omega), hab] at hl
    have h2 : r_shuntAll_f81 g0 (r_shuntAll_R g0) 280 2 = g0 280 2 := i1.2.2.1 2 (by decide) (by decide) (by decide) (fun C hC => ⟨by omega, by omega⟩)
    unfold r_nextShunt_v at hl
    rw [h2, hg, r_nx] at hl
    apply t2_wf_none
    unfold c0_shuntCells_g49
    rw [fl_row_self, upd_self, c0_ga hc hn (fun C hC => (hp C hC).trans (i1.1 C hC).symm), if_pos hl]
theorem c0_gs {f : t2_F} {i : Nat} {x : Int32} : c0_giveShunt_m f i x (18 + 4 * i) 2 = t2_heldTo_v (f (18 + 4 * i) 2 - t2_min_v x (f (18 + 4 * i) 2)) (0 : Int32) (f (18 + 4 * i) 0 * (3600 : Int32)) ∧
    c0_giveShunt_m f i x (18 + 4 * i) 3 = t2_partOf_v (c0_giveShunt_m f i x (18 + 4 * i) 2) (f (18 + 4 * i) 0 * (3600 : Int32)) ∧
    c0_giveShunt_m f i x (18 + 4 * i) 4 = t2_rb (c0_giveShunt_m f i x (18 + 4 * i) 3) ∧
    c0_giveShunt_m f i x (18 + 4 * i) 8 = t2_heldTo_v (f (18 + 4 * i) 8 - x) (0 : Int32) (f (18 + 4 * i) 0 * (3600 : Int32)) ∧
    ∀ j : Nat, j ≠ 2 → j ≠ 3 → j ≠ 4 → j ≠ 8 → c0_giveShunt_m f i x (18 + 4 * i) j = f (18 + 4 * i) j := by
  unfold c0_giveShunt_m c0_putReckoned_m c0_putCharge_m
  refine ⟨?_, ?_, ?_, ?_, fun j h2 h3 h4 h8 => ?_⟩ <;> simp (disch := omega) only [fl_row_self, upd_self, upd_ne]
/-- what the class's giving has left behind k cells -/
def c0_GI (fc F : t2_F) (b : Int32) (n k : Nat) : Prop :=
  (∀ C : Nat, C < n → (C < k ∧ t2_bt b C = true → F (18 + 4 * C) 2 = t2_heldTo_v (fc (18 + 4 * C) 2 - t2_min_v (fc 4 12) (fc (18 + 4 * C) 2)) (0 : Int32) (fc (18 + 4 * C) 0 * (3600 : Int32)) ∧ F (18 + 4 * C) 3 = t2_partOf_v (F (18 + 4 * C) 2) (fc (18 + 4 * C) 0 * (3600 : Int32)) ∧ F (18 + 4 * C) 4 = t2_rb (F (18 + 4 * C) 3) ∧ F (18 + 4 * C) 8 = t2_heldTo_v (fc (18 + 4 * C) 8 - fc 4 12) (0 : Int32) (fc (18 + 4 * C) 0 * (3600 : Int32)) ∧ ∀ j : Nat, j ≠ 2 → j ≠ 3 → j ≠ 4 → j ≠ 8 → F (18 + 4 * C) j = fc (18 + 4 * C) j) ∧ (¬ (C < k ∧ t2_bt b C = true) → F (18 + 4 * C) = fc (18 + 4 * C))) ∧
  F 1 13 = fc 1 13 + t2_sb b (fun C => t2_min_v (fc 4 12) (fc (18 + 4 * C) 2)) k ∧ F 1 11 = fc 1 11 + t2_sb b (fun _ => (3 : Int32)) k ∧ F 1 16 = b ∧ (∀ j : Nat, j ≠ 11 → j ≠ 13 → j ≠ 16 → F 1 j = fc 1 j) ∧ F 4 = fc 4
theorem c0_GI_step {b : Int32} {k : Nat} (hn : n ≤ 16) (hk : k < n) (h : c0_GI fc F b n k) : c0_GI fc (c0_shuntCells_b95_m F a above k) b n (k + 1) := by
  obtain ⟨h1, h2, h3, h4, h5, h6⟩ := h
  have hF := (h1 k hk).2 (fun q => absurd q.1 (Nat.lt_irrefl k))
  unfold c0_shuntCells_b95_m
  rw [h4]
  by_cases hb : t2_bt b k = false
  · rw [if_pos ((t2_bit0 (by omega)).mpr hb)]
    refine ⟨fun C hC => ?_, ?_, ?_, h4, h5, h6⟩
    · by_cases e : C = k
      · subst e
        exact ⟨fun q => absurd (q.2.symm.trans hb) (by decide), fun _ => hF⟩
      · have := h1 C hC
        refine ⟨fun q => this.1 ⟨by omega, q.2⟩, fun q => this.2 (fun r => q ⟨by omega, r.2⟩)⟩
    · rw [h2]
      show _ = _ + (_ + (if t2_bt b k = true then _ else 0))
      rw [if_neg (by rw [hb]; decide), Int32.add_zero]
    · rw [h3]
      show _ = _ + (_ + (if t2_bt b k = true then _ else 0))
      rw [if_neg (by rw [hb]; decide), Int32.add_zero]
  · have hb1 : t2_bt b k = true := by
      cases e : t2_bt b k
      · exact absurd e hb
      · rfl
    rw [if_neg (fun q => hb ((t2_bit0 (by omega)).mp q))]
    obtain ⟨g2, g3, g4, g8, go⟩ := c0_gs (f := F) (i := k) (x := F 4 12)
    have gp : ∀ p : Nat, p ≠ 18 + 4 * k → c0_giveShunt_m F k (F 4 12) p = F p := fun p hp => c0_giveShunt_fr (p := p) (i := k) hp
    have gv : c0_giveShunt_v F k (F 4 12) = t2_min_v (fc 4 12) (fc (18 + 4 * k) 2) := by
      unfold c0_giveShunt_v
      rw [h6, hF]
    refine ⟨fun C hC => ?_, ?_, ?_, ?_, fun j j11 j13 j16 => ?_, ?_⟩
    · rw [fl_row_ne (by omega)]
      by_cases e : C = k
      · subst e
        refine ⟨fun _ => ⟨?_, ?_, g4, ?_, fun j a2 a3 a4 a8 => ?_⟩, fun q => absurd ⟨Nat.lt_succ_self C, hb1⟩ q⟩
        · rw [g2, h6, hF]
        · rw [g3, hF]
        · rw [g8, h6, hF]
        · rw [go j a2 a3 a4 a8, hF]
      · rw [gp (18 + 4 * C) (by omega)]
        have := h1 C hC
        exact ⟨fun q => this.1 ⟨by omega, q.2⟩, fun q => this.2 (fun r => q ⟨by omega, r.2⟩)⟩
    · rw [fl_row_self, upd_ne (by decide), upd_self, gv, h2]
      show _ = _ + (_ + (if t2_bt b k = true then _ else 0))
      rw [if_pos hb1, Int32.add_assoc]
    · rw [fl_row_self, upd_self, h3]
      show _ = _ + (_ + (if t2_bt b k = true then _ else 0))
      rw [if_pos hb1, Int32.add_assoc]
    · rw [fl_row_self, upd_ne (by decide), upd_ne (by decide), gp 1 (by omega), h4]
    · rw [fl_row_self, upd_ne j11, upd_ne j13, gp 1 (by omega), h5 j j11 j13 j16]
    · rw [fl_row_ne (by decide), gp 4 (by omega), h6]
end C0SHUN

/-! ===== block 2: (4) of a second: shunts ===== -/
section C2SHUN
variable {fc fr g0 F G : t2_F} {C n X : Nat} {x y a above : Int32}
theorem c2_nx {p : Nat → Int32} (hp : ∀ k : Nat, k < n → fc (198 + 4 * k) 3 = p k) (hn : n ≤ 16) : ∀ m : Nat, m ≤ n → (c2_greatestAbove_a8 fc x y m).1 = t2_nx p y x m ∧ (c2_greatestAbove_a8 fc x y m).2 = if (t2_nx p y x m).toInt = (-1 : Int32).toInt then x else p ((t2_nx p y x m).toInt.toNat) := by
  have m1 : (-1 : Int32).toInt = -1 := by decide +kernel
  intro m
  induction m with
  | zero => intro _; exact ⟨rfl, (if_pos rfl).symm⟩
  | succ m ih =>
    intro hm
    obtain ⟨i1, i2⟩ := ih (by omega)
    have em : (Int32.ofNat m).toInt = m := at_ofN (by omega)
    have emn : (Int32.ofNat m).toInt.toNat = m := by omega
    unfold c2_greatestAbove_a8 t2_nx
    rw [i1, i2, hp m (by omega)]
    by_cases hb : t2_bt y m = false
    · have c1 : ((y >>> (Int32.ofNat m &&& 31)) &&& (1 : Int32)).toInt = 0 := (t2_bit0 (by omega)).mpr hb
      have c2 : (r_has_v y (Int32.ofNat m)).toInt = 0 := (t2_has0 (by omega)).mpr hb
      simp only [if_pos c1, if_pos c2]
      rcases t2_nx_in (p := p) (b := y) (x := x) m (by omega) with h | ⟨j, j1, j2, j3, j4⟩
      · rw [h]
        simp only [if_true]
        by_cases hx : x.toInt < (p m).toInt
        · simp only [if_pos hx]
          exact ⟨trivial, by rw [if_neg (by omega), emn]⟩
        · simp only [if_neg hx]
          exact ⟨trivial, (if_pos trivial).symm⟩
      · have ej : (Int32.ofNat j).toInt = j := at_ofN (by omega)
        have ejn : (Int32.ofNat j).toInt.toNat = j := by omega
        have nj : ¬ (Int32.ofNat j).toInt = (-1 : Int32).toInt := by omega
        rw [j2]
        simp only [if_neg nj, ejn]
        by_cases hx : (p j).toInt < (p m).toInt
        · simp only [if_pos hx, if_pos (show x.toInt < (p m).toInt by omega)]
          exact ⟨trivial, by rw [if_neg (by omega), emn]⟩
        · simp only [if_neg hx, ite_self]
          exact ⟨trivial, by rw [if_neg nj, ejn]⟩
    · have c1 : ¬ ((y >>> (Int32.ofNat m &&& 31)) &&& (1 : Int32)).toInt = 0 := fun h => hb ((t2_bit0 (by omega)).mp h)
      have c2 : ¬ (r_has_v y (Int32.ofNat m)).toInt = 0 := fun h => hb ((t2_has0 (by omega)).mp h)
      simp only [if_neg c1, if_neg c2]
      exact ⟨trivial, trivial⟩
theorem c2_rowrow {f : t2_F} {p k : Nat} {v v' : Int32} : fl_row (fl_row f p (upd (f p) k v)) p (upd ((fl_row f p (upd (f p) k v)) p) k v') = fl_row f p (upd (f p) k v') := by
  funext q j
  by_cases h : q = p
  · subst h
    simp only [fl_row_self]
    unfold upd
    by_cases e : j = k
    · simp only [if_pos e]
    · simp only [if_neg e]
  · rw [fl_row_ne h, fl_row_ne h, fl_row_ne h]
theorem c2_rowid {f : t2_F} {p k : Nat} {v : Int32} (h : f p k = v) : fl_row f p (upd (f p) k v) = f := by
  subst h
  funext q j
  by_cases h : q = p
  · subst h
    rw [fl_row_self]
    unfold upd
    by_cases e : j = k
    · rw [if_pos e, e]
    · rw [if_neg e]
  · rw [fl_row_ne h]
theorem c2_ga {b : Int32} {p : Nat → Int32} (hc : (fc 181 5).toInt.toNat = n) (hn : n ≤ 16) (hp : ∀ k : Nat, k < n → fc (198 + 4 * k) 3 = p k) : c2_greatestAbove_v (fl_row fc 181 (upd (fc 181) 16 b)) x b = t2_nx p b x n := by
  unfold c2_greatestAbove_v
  rw [fl_row_self, upd_ne (by decide : 5 ≠ 16), hc]
  exact (c2_nx (fc := fl_row fc 181 (upd (fc 181) 16 b)) (p := p) (fun k hk => by rw [fl_row_ne (by omega)]; exact hp k hk) hn n (Nat.le_refl n)).1
theorem c2_sync (hc : (fc 181 5).toInt.toNat = n) (hn : n ≤ 16) (hg : (g0 280 2).toInt.toNat = n) (hp : ∀ C : Nat, C < n → fc (198 + 4 * C) 3 = r_partOf_v g0 0 C) (h16 : fc 181 16 = 0) (h13 : g0 280 13 = 0) (hX : (r_shuntAll_j24_0 g0).toInt.toNat = X) (hab : (r_leastPart_v g0) + (g0 280 48) = above) : ∀ k : Nat, k ≤ r_shuntAll_R g0 → r_SI g0 (r_shuntAll_f81 g0 k) n ∧ t2_wf (fun f' => c2_shuntCells_g49 f' a above) X fc = t2_wf (fun f' => c2_shuntCells_g49 f' a above) (X - k) (fl_row fc 181 (upd (fc 181) 16 (r_shuntAll_f81 g0 k 280 13))) := by
  have m1 : (-1 : Int32).toInt = -1 := by decide +kernel
  have hRX : r_shuntAll_R g0 ≤ X := by rw [← hX]; exact t2_fst_le _ _
  intro k
  induction k with
  | zero =>
    intro _
    refine ⟨r_shunt_0 hg hn h13, ?_⟩
    rw [r_shunt_013, c2_rowid (h16.trans h13.symm)]
    rfl
  | succ k ih =>
    intro hk
    obtain ⟨i1, i2⟩ := ih (by omega)
    have ha := r_shunt_a (g0 := g0) k (by omega)
    rw [if_pos (by omega), hab] at ha
    have hne := r_shuntAll_kt (f := g0) (k := k) (by omega)
    have h2 : r_shuntAll_f81 g0 k 280 2 = g0 280 2 := i1.2.2.1 2 (by decide) (by decide) (by decide) (fun C hC => ⟨by omega, by omega⟩)
    have hv : r_nextShunt_v (r_shuntAll_f81 g0 k) above = t2_nx (r_shuntAll_f81 g0 k 282) (r_shuntAll_f81 g0 k 280 13) above n := by
      unfold r_nextShunt_v
      rw [h2, hg, r_nx]
    rw [ha, hv] at hne
    rcases t2_nx_in (p := r_shuntAll_f81 g0 k 282) (b := r_shuntAll_f81 g0 k 280 13) (x := above) n hn with h | ⟨j, j1, j2, j3, j4⟩
    · rw [h] at hne
      exact absurd rfl hne
    · have ej : (Int32.ofNat j).toInt = j := at_ofN (by omega)
      have ea : r_shuntAll_a81_0 g0 k = Int32.ofNat j := by rw [ha, hv, j2]
      have eS : r_shuntAll_f81 g0 (k + 1) = r_shuntAll_b81_m (r_shuntAll_f81 g0 k) ((r_leastPart_v g0) + (g0 280 48)) ((r_shuntAll_j24_0 g0).toInt.toNat) (Int32.ofNat j) k := by rw [r_shuntAll_fS, ea]
      have w13 := (r_b81_w (f := r_shuntAll_f81 g0 k) (a := (r_leastPart_v g0) + (g0 280 48)) (X := (r_shuntAll_j24_0 g0).toInt.toNat) (k := k) (j := j) (by omega) rfl).2.2.2.2.1
      refine ⟨by rw [eS]; exact r_SI_step hn i1 j1 j3, ?_⟩
      rw [i2, show X - k = (X - (k + 1)) + 1 by omega]
      have eg : c2_shuntCells_g49 (fl_row fc 181 (upd (fc 181) 16 (r_shuntAll_f81 g0 k 280 13))) a above = some (fl_row fc 181 (upd (fc 181) 16 (r_shuntAll_f81 g0 (k + 1) 280 13))) := by
        unfold c2_shuntCells_g49
        rw [fl_row_self, upd_self, c2_ga hc hn (fun C hC => (hp C hC).trans (i1.1 C hC).symm), j2, if_neg (by omega), eS, w13]
        congr 1
        have rr := c2_rowrow (f := fc) (p := 181) (k := 16) (v := r_shuntAll_f81 g0 k 280 13) (v' := r_shuntAll_f81 g0 k 280 13 ||| ((1 : Int32) <<< (Int32.ofNat j &&& 31)))
        rw [fl_row_self] at rr
        exact rr
      show (match c2_shuntCells_g49 (fl_row fc 181 (upd (fc 181) 16 (r_shuntAll_f81 g0 k 280 13))) a above with | none => _ | some f' => t2_wf _ (X - (k + 1)) f') = _
      rw [eg]
theorem c2_chosen (hc : (fc 181 5).toInt.toNat = n) (hn : n ≤ 16) (hg : (g0 280 2).toInt.toNat = n) (hp : ∀ C : Nat, C < n → fc (198 + 4 * C) 3 = r_partOf_v g0 0 C) (h16 : fc 181 16 = 0) (h13 : g0 280 13 = 0) (hX : (r_shuntAll_j24_0 g0).toInt.toNat = X) (hab : (r_leastPart_v g0) + (g0 280 48) = above) (ho : 0 ≤ (g0 280 47).toInt ∧ (g0 280 47).toInt ≤ 16) : r_SI g0 (r_shuntAll_m g0) n ∧ t2_wf (fun f' => c2_shuntCells_g49 f' a above) X fc = fl_row fc 181 (upd (fc 181) 16 (r_shuntAll_m g0 280 13)) := by
  have hRX : r_shuntAll_R g0 ≤ X := by rw [← hX]; exact t2_fst_le _ _
  obtain ⟨i1, i2⟩ := c2_sync (a := a) hc hn hg hp h16 h13 hX hab (r_shuntAll_R g0) (Nat.le_refl _)
  refine ⟨i1, i2.trans ?_⟩
  show _ = fl_row fc 181 (upd (fc 181) 16 (r_shuntAll_f81 g0 (r_shuntAll_R g0) 280 13))
  by_cases hR : r_shuntAll_R g0 = X
  · rw [hR, Nat.sub_self]
    rfl
  · have hl := r_shuntAll_kf (f := g0) ho
    rw [r_shunt_a (g0 := g0) (r_shuntAll_R g0) (by omega), if_pos (by omega), hab] at hl
    have h2 : r_shuntAll_f81 g0 (r_shuntAll_R g0) 280 2 = g0 280 2 := i1.2.2.1 2 (by decide) (by decide) (by decide) (fun C hC => ⟨by omega, by omega⟩)
    unfold r_nextShunt_v at hl
    rw [h2, hg, r_nx] at hl
    apply t2_wf_none
    unfold c2_shuntCells_g49
    rw [fl_row_self, upd_self, c2_ga hc hn (fun C hC => (hp C hC).trans (i1.1 C hC).symm), if_pos hl]
theorem c2_gs {f : t2_F} {i : Nat} {x : Int32} : c2_giveShunt_m f i x (198 + 4 * i) 2 = t2_heldTo_v (f (198 + 4 * i) 2 - t2_min_v x (f (198 + 4 * i) 2)) (0 : Int32) (f (198 + 4 * i) 0 * (3600 : Int32)) ∧
    c2_giveShunt_m f i x (198 + 4 * i) 3 = t2_partOf_v (c2_giveShunt_m f i x (198 + 4 * i) 2) (f (198 + 4 * i) 0 * (3600 : Int32)) ∧
    c2_giveShunt_m f i x (198 + 4 * i) 4 = t2_rb (c2_giveShunt_m f i x (198 + 4 * i) 3) ∧
    c2_giveShunt_m f i x (198 + 4 * i) 8 = t2_heldTo_v (f (198 + 4 * i) 8 - x) (0 : Int32) (f (198 + 4 * i) 0 * (3600 : Int32)) ∧
    ∀ j : Nat, j ≠ 2 → j ≠ 3 → j ≠ 4 → j ≠ 8 → c2_giveShunt_m f i x (198 + 4 * i) j = f (198 + 4 * i) j := by
  unfold c2_giveShunt_m c2_putReckoned_m c2_putCharge_m
  refine ⟨?_, ?_, ?_, ?_, fun j h2 h3 h4 h8 => ?_⟩ <;> simp (disch := omega) only [fl_row_self, upd_self, upd_ne]
def c2_GI (fc F : t2_F) (b : Int32) (n k : Nat) : Prop :=
  (∀ C : Nat, C < n → (C < k ∧ t2_bt b C = true → F (198 + 4 * C) 2 = t2_heldTo_v (fc (198 + 4 * C) 2 - t2_min_v (fc 184 12) (fc (198 + 4 * C) 2)) (0 : Int32) (fc (198 + 4 * C) 0 * (3600 : Int32)) ∧ F (198 + 4 * C) 3 = t2_partOf_v (F (198 + 4 * C) 2) (fc (198 + 4 * C) 0 * (3600 : Int32)) ∧ F (198 + 4 * C) 4 = t2_rb (F (198 + 4 * C) 3) ∧ F (198 + 4 * C) 8 = t2_heldTo_v (fc (198 + 4 * C) 8 - fc 184 12) (0 : Int32) (fc (198 + 4 * C) 0 * (3600 : Int32)) ∧ ∀ j : Nat, j ≠ 2 → j ≠ 3 → j ≠ 4 → j ≠ 8 → F (198 + 4 * C) j = fc (198 + 4 * C) j) ∧ (¬ (C < k ∧ t2_bt b C = true) → F (198 + 4 * C) = fc (198 + 4 * C))) ∧
  F 181 13 = fc 181 13 + t2_sb b (fun C => t2_min_v (fc 184 12) (fc (198 + 4 * C) 2)) k ∧ F 181 11 = fc 181 11 + t2_sb b (fun _ => (3 : Int32)) k ∧ F 181 16 = b ∧ (∀ j : Nat, j ≠ 11 → j ≠ 13 → j ≠ 16 → F 181 j = fc 181 j) ∧ F 184 = fc 184
theorem c2_GI_step {b : Int32} {k : Nat} (hn : n ≤ 16) (hk : k < n) (h : c2_GI fc F b n k) : c2_GI fc (c2_shuntCells_b95_m F a above k) b n (k + 1) := by
  obtain ⟨h1, h2, h3, h4, h5, h6⟩ := h
  have hF := (h1 k hk).2 (fun q => absurd q.1 (Nat.lt_irrefl k))
  unfold c2_shuntCells_b95_m
  rw [h4]
  by_cases hb : t2_bt b k = false
  · rw [if_pos ((t2_bit0 (by omega)).mpr hb)]
    refine ⟨fun C hC => ?_, ?_, ?_, h4, h5, h6⟩
    · by_cases e : C = k
      · subst e
        exact ⟨fun q => absurd (q.2.symm.trans hb) (by decide), fun _ => hF⟩
      · have := h1 C hC
        refine ⟨fun q => this.1 ⟨by omega, q.2⟩, fun q => this.2 (fun r => q ⟨by omega, r.2⟩)⟩
    · rw [h2]
      show _ = _ + (_ + (if t2_bt b k = true then _ else 0))
      rw [if_neg (by rw [hb]; decide), Int32.add_zero]
    · rw [h3]
      show _ = _ + (_ + (if t2_bt b k = true then _ else 0))
      rw [if_neg (by rw [hb]; decide), Int32.add_zero]
  · have hb1 : t2_bt b k = true := by
      cases e : t2_bt b k
      · exact absurd e hb
      · rfl
    rw [if_neg (fun q => hb ((t2_bit0 (by omega)).mp q))]
    obtain ⟨g2, g3, g4, g8, go⟩ := c2_gs (f := F) (i := k) (x := F 184 12)
    have gp : ∀ p : Nat, p ≠ 198 + 4 * k → c2_giveShunt_m F k (F 184 12) p = F p := fun p hp => c2_giveShunt_fr (p := p) (i := k) hp
    have gv : c2_giveShunt_v F k (F 184 12) = t2_min_v (fc 184 12) (fc (198 + 4 * k) 2) := by
      unfold c2_giveShunt_v
      rw [h6, hF]
    refine ⟨fun C hC => ?_, ?_, ?_, ?_, fun j j11 j13 j16 => ?_, ?_⟩
    · rw [fl_row_ne (by omega)]
      by_cases e : C = k
      · subst e
        refine ⟨fun _ => ⟨?_, ?_, g4, ?_, fun j a2 a3 a4 a8 => ?_⟩, fun q => absurd ⟨Nat.lt_succ_self C, hb1⟩ q⟩
        · rw [g2, h6, hF]
        · rw [g3, hF]
        · rw [g8, h6, hF]
        · rw [go j a2 a3 a4 a8, hF]
      · rw [gp (198 + 4 * C) (by omega)]
        have := h1 C hC
        exact ⟨fun q => this.1 ⟨by omega, q.2⟩, fun q => this.2 (fun r => q ⟨by omega, r.2⟩)⟩
    · rw [fl_row_self, upd_ne (by decide), upd_self, gv, h2]
      show _ = _ + (_ + (if t2_bt b k = true then _ else 0))
      rw [if_pos hb1, Int32.add_assoc]
    · rw [fl_row_self, upd_self, h3]
      show _ = _ + (_ + (if t2_bt b k = true then _ else 0))
      rw [if_pos hb1, Int32.add_assoc]
    · rw [fl_row_self, upd_ne (by decide), upd_ne (by decide), gp 181 (by omega), h4]
    · rw [fl_row_self, upd_ne j11, upd_ne j13, gp 181 (by omega), h5 j j11 j13 j16]
    · rw [fl_row_ne (by decide), gp 184 (by omega), h6]
end C2SHUN

end

/-! 94.05.bal.lean.txt -/
section
/-! ===== block 0: (4) of a second ===== -/
section C0BAL
variable {fc fr F G : t2_F} {C n : Nat}
def c0_RB (fc fr : t2_F) (n : Nat) : Prop := c0_Rs fc fr ∧ (∀ C : Nat, C < n → c0_Rc fc fr C ∧ t2_cap (fc (18 + 4 * C) 0) ∧ t2_ck fr C) ∧ fc 1 14 = fr 280 11 ∧ fc 1 15 = fr 280 12 ∧ fc 1 11 = fr 280 8 ∧ fc 1 13 = fr 280 10 ∧ fc 1 16 = fr 280 13
theorem c0_ck_held {v x : Int32} (hx : t2_cap x) (h0 : G 280 (444 + 61 * C + 0) = x) (h1 : G 280 (444 + 61 * C + 1) = r_held_v v (0 : Int32) ((3600 : Int32) * x)) : t2_ck G C := by
  have hf := t2_full_r hx
  have e0 : (0 : Int32).toInt = 0 := rfl
  have b : (0 : Int32).toInt ≤ (r_held_v v (0 : Int32) ((3600 : Int32) * x)).toInt ∧ (r_held_v v (0 : Int32) ((3600 : Int32) * x)).toInt ≤ ((3600 : Int32) * x).toInt := t2_heldTo_b (v := v) (lo := (0 : Int32)) (hi := (3600 : Int32) * x) (by have := hx.1; omega)
  unfold t2_ck
  rw [h0, h1]
  exact ⟨hx, by omega, by omega⟩
theorem c0_ck_congr (h : t2_ck fr C) (e0 : G 280 (444 + 61 * C + 0) = fr 280 (444 + 61 * C + 0)) (e1 : G 280 (444 + 61 * C + 1) = fr 280 (444 + 61 * C + 1)) : t2_ck G C := by
  unfold t2_ck
  rw [e0, e1]
  exact h
theorem c0_RB.congrG (h : c0_RB fc fr n) (e : G 280 = fr 280) : c0_RB fc G n := by
  obtain ⟨hs, hc, e14, e15, e11, e13, e16⟩ := h
  refine ⟨hs.congr rfl (fun k _ => by rw [e]), fun C hC => ⟨(hc C hC).1.congr rfl (fun k _ => by rw [e]), (hc C hC).2.1, c0_ck_congr (hc C hC).2.2 (by rw [e]) (by rw [e])⟩, ?_, ?_, ?_, ?_, ?_⟩ <;> rw [e] <;> assumption
theorem c0_sh_eq {A B : Nat} {cA cB : Int32} (hA : A < n) (hB : B < n) (hAB : A ≠ B) (h : c0_RB fc fr n) (hG : G 280 = r_sh fr cA cB A B 280) : c0_RB (c0_sh fc A B) G n := by
  obtain ⟨hs, hc, e14, e15, e11, e13, e16⟩ := h
  have rA := (hc A hA).1
  have rB := (hc B hB).1
  have capA := (hc A hA).2.1
  have capB := (hc B hB).2.1
  have s15 : fc 4 15 = fr 280 49 := hs 15 (by omega)
  have s16 : fc 4 16 = fr 280 50 := hs 16 (by omega)
  have a0 := rA.1.1
  have a2 := rA.1.2.2
  have a8 := rA.2.2.2.1
  have b0 := rB.1.1
  have b2 := rB.1.2.2
  have b8 := rB.2.2.2.1
  have ho : r_lesser_v (fr 280 49) (fr 280 (444 + 61 * A + 1)) = t2_min_v (fc 4 15) (fc (18 + 4 * A) 2) := by rw [t2_les, s15, a2]
  have hi : r_lesser_v (t2_min_v (fc 4 15) (fc (18 + 4 * A) 2) * (fr 280 50) / (100 : Int32)) (((3600 : Int32) * (fr 280 (444 + 61 * B + 0))) - (fr 280 (444 + 61 * B + 1))) = t2_min_v (((t2_min_v (fc 4 15) (fc (18 + 4 * A) 2)) * (fc 4 16)) / (100 : Int32)) (((fc (18 + 4 * B) 0) * (3600 : Int32)) - (fc (18 + 4 * B) 2)) := by rw [t2_les, s16, b0, b2, t2_m32 (3600 : Int32)]
  obtain ⟨⟨g1, g2⟩, ⟨g3, g4⟩, go, g11, g12⟩ := r_sh_w (f := fr) (cA := cA) (cB := cB) hAB ho hi
  obtain ⟨⟨wA2, wA3, wA4, wA8, wAo⟩, ⟨wB2, wB3, wB4, wB8, wBo⟩, wp, wo, w14, w15⟩ := c0_sh_w (f := fc) hAB
  refine ⟨fun k hk => ?_, fun C hC => ?_, ?_, ?_, ?_, ?_, ?_⟩
  · rw [wp 4 (by decide) (by omega) (by omega), hG, go (34 + k) (by omega) (by omega) (by omega) (by omega) (by omega) (by omega)]
    exact hs k hk
  · by_cases eA : C = A
    · subst eA
      have k := c0_Rc_new (F := c0_sh fc C B) (G := G) rA capA (by rw [wA2, hG, g1, ← a2, ← a0, t2_m32 (3600 : Int32), Int32.sub_eq_add_neg]; rfl) wA3 wA4 (by rw [wA8, hG, g2, ← a8, ← a0, t2_m32 (3600 : Int32), Int32.sub_eq_add_neg]; rfl) wAo (fun w hw h1 h4 => by rw [hG]; exact go _ (by omega) (by omega) (by omega) (by omega) (by omega) (by omega))
      exact ⟨k.1, k.2, c0_ck_held (hc C hC).2.2.1 (by rw [hG]; exact go _ (by omega) (by omega) (by omega) (by omega) (by omega) (by omega)) (by rw [hG]; exact g1)⟩
    · by_cases eB : C = B
      · subst eB
        have k := c0_Rc_new (F := c0_sh fc A C) (G := G) rB capB (by rw [wB2, hG, g3, ← b2, ← b0, t2_m32 (3600 : Int32)]; rfl) wB3 wB4 (by rw [wB8, hG, g4, ← b8, ← b0, t2_m32 (3600 : Int32)]; rfl) wBo (fun w hw h1 h4 => by rw [hG]; exact go _ (by omega) (by omega) (by omega) (by omega) (by omega) (by omega))
        exact ⟨k.1, k.2, c0_ck_held (hc C hC).2.2.1 (by rw [hG]; exact go _ (by omega) (by omega) (by omega) (by omega) (by omega) (by omega)) (by rw [hG]; exact g3)⟩
      · have ep := wp (18 + 4 * C) (by omega) (by omega) (by omega)
        have eg : ∀ k : Nat, k < 61 → G 280 (444 + 61 * C + k) = fr 280 (444 + 61 * C + k) := fun k hk => by rw [hG]; exact go _ (by omega) (by omega) (by omega) (by omega) (by omega) (by omega)
        exact ⟨(hc C hC).1.congr ep eg, by rw [ep]; exact (hc C hC).2.1, c0_ck_congr (hc C hC).2.2 (eg 0 (by decide)) (eg 1 (by decide))⟩
  · rw [w14, hG, g11, e14]
  · rw [w15, hG, g12, e15]
  · rw [wo 11 (by decide) (by decide), hG, go 8 (by omega) (by omega) (by omega) (by omega) (by omega) (by omega), e11]
  · rw [wo 13 (by decide) (by decide), hG, go 10 (by omega) (by omega) (by omega) (by omega) (by omega) (by omega), e13]
  · rw [wo 16 (by decide) (by decide), hG, go 13 (by omega) (by omega) (by omega) (by omega) (by omega) (by omega), e16]
theorem c0_shuttle_eq {i : Nat} (hi : i + 1 < n) (h : c0_RB fc fr n) : c0_RB (c0_shuttle_m fc i) (r_shuttle_m fr (Int32.ofNat i) i) n := by
  have hs14 : fc 4 14 = fr 280 48 := h.1 14 (by omega)
  have pi : fc (18 + 4 * i) 3 = r_partOf_v fr (Int32.ofNat i) i := (h.2.1 i (by omega)).1.2.1.1
  have pj : fc (18 + 4 * (i + 1)) 3 = r_partOf_v fr (Int32.ofNat i + (1 : Int32)) (i + 1) := (h.2.1 (i + 1) hi).1.2.1.1
  have bi : 0 ≤ (r_partOf_v fr (Int32.ofNat i) i).toInt ∧ (r_partOf_v fr (Int32.ofNat i) i).toInt ≤ 1000 := t2_ckp (h.2.1 i (by omega)).2.2
  have bj : 0 ≤ (r_partOf_v fr (Int32.ofNat i + (1 : Int32)) (i + 1)).toInt ∧ (r_partOf_v fr (Int32.ofNat i + (1 : Int32)) (i + 1)).toInt ≤ 1000 := t2_ckp (h.2.1 (i + 1) hi).2.2
  have hG := r_shuttle_sh (f := fr) (c := Int32.ofNat i) (C := i)
  rw [c0_shuttle_sh, hs14, pi, pj]
  have hd : (r_partOf_v fr (Int32.ofNat i) i - r_partOf_v fr (Int32.ofNat i + (1 : Int32)) (i + 1)).toInt = (r_partOf_v fr (Int32.ofNat i) i).toInt - (r_partOf_v fr (Int32.ofNat i + (1 : Int32)) (i + 1)).toInt := at_sub32 (by omega) (by omega)
  by_cases h1 : (fr 280 48).toInt < (r_size_v (r_partOf_v fr (Int32.ofNat i) i - r_partOf_v fr (Int32.ofNat i + (1 : Int32)) (i + 1))).toInt
  · rw [if_pos h1] at hG
    have h1' : (fr 280 48).toInt < (t2_abs_v (r_partOf_v fr (Int32.ofNat i) i - r_partOf_v fr (Int32.ofNat i + (1 : Int32)) (i + 1))).toInt := h1
    rw [if_pos h1']
    by_cases h2 : 0 < (r_partOf_v fr (Int32.ofNat i) i - r_partOf_v fr (Int32.ofNat i + (1 : Int32)) (i + 1)).toInt
    · rw [if_pos h2] at hG
      rw [if_pos (by omega)]
      exact c0_sh_eq (by omega) hi (by omega) h hG
    · rw [if_neg h2] at hG
      rw [if_neg (by omega)]
      exact c0_sh_eq hi (by omega) (by omega) h hG
  · rw [if_neg h1] at hG
    have h1' : ¬ (fr 280 48).toInt < (t2_abs_v (r_partOf_v fr (Int32.ofNat i) i - r_partOf_v fr (Int32.ofNat i + (1 : Int32)) (i + 1))).toInt := h1
    rw [if_neg h1']
    exact h.congrG hG
theorem c0_given {b : Int32} (hc : (fc 1 5).toInt.toNat = n) (hn : n ≤ 16) (F0 : c0_shuntCells_f95 fc 0 = fl_row fc 1 (upd (fc 1) 16 b)) : c0_GI fc (c0_shuntCells_m fc) b n n := by
  have gi : ∀ k : Nat, k ≤ n → c0_GI fc (c0_shuntCells_f95 fc k) b n k := by
    intro k
    induction k with
    | zero =>
      intro _
      rw [F0]
      refine ⟨fun C h => ⟨fun q => absurd q.1 (Nat.not_lt_zero C), fun _ => fl_row_ne (by omega)⟩, ?_, ?_, ?_, fun j j1 j2 j3 => ?_, fl_row_ne (by decide)⟩
      · rw [fl_row_self, upd_ne (by decide), t2_sb_z, Int32.add_zero]
      · rw [fl_row_self, upd_ne (by decide), t2_sb_z, Int32.add_zero]
      · rw [fl_row_self, upd_self]
      · rw [fl_row_self, upd_ne j3]
    | succ k ih =>
      intro hk
      unfold c0_shuntCells_f95
      exact c0_GI_step hn (by omega) (ih (by omega))
  have m : c0_shuntCells_m fc = c0_shuntCells_f95 fc n := by
    unfold c0_shuntCells_m
    rw [hc]
  rw [m]
  exact gi n (Nat.le_refl n)
theorem c0_chosen0 {b : Int32} (hj : c0_shuntCells_j13_0 fc = r_shuntAll_j24_0 fr) (hl : c0_leastPart_v fc = r_leastPart_v fr) (s14 : fc 4 14 = fr 280 48) (wf : t2_wf (fun f' => c0_shuntCells_g49 f' (c0_shuntCells_j13_0 fc) (r_leastPart_v fr + fr 280 48)) (r_shuntAll_j24_0 fr).toInt.toNat fc = fl_row fc 1 (upd (fc 1) 16 b)) : c0_shuntCells_f95 fc 0 = fl_row fc 1 (upd (fc 1) 16 b) := by
  unfold c0_shuntCells_f95
  rw [← wf, ← hj, hl, s14]
theorem c0_shunt_two (hc : (fc 1 5).toInt.toNat = n) (hg : (fr 280 2).toInt.toNat = n) (hn : n ≤ 16) (h : c0_RB fc fr n) (h16 : fc 1 16 = 0) (ho : 0 ≤ (fr 280 47).toInt ∧ (fr 280 47).toInt ≤ 16) : r_SI fr (r_shuntAll_m fr) n ∧ c0_GI fc (c0_shuntCells_m fc) (r_shuntAll_m fr 280 13) n n := by
  obtain ⟨hs, hC, e14, e15, e11, e13, e16⟩ := h
  have s2 : fc 4 2 = fr 280 36 := hs 2 (by omega)
  have s12 : fc 4 12 = fr 280 46 := hs 12 (by omega)
  have s13 : fc 4 13 = fr 280 47 := hs 13 (by omega)
  have s14 : fc 4 14 = fr 280 48 := hs 14 (by omega)
  have hj : c0_shuntCells_j13_0 fc = r_shuntAll_j24_0 fr := by
    unfold c0_shuntCells_j13_0 r_shuntAll_j24_0
    rw [e11, s2, s13]
  have hl : c0_leastPart_v fc = r_leastPart_v fr := by
    unfold c0_leastPart_v r_leastPart_v
    rw [hc, hg]
    exact c0_least_eq (fun C h => (hC C h).1)
  obtain ⟨si, wf⟩ := c0_chosen (X := (r_shuntAll_j24_0 fr).toInt.toNat) (above := r_leastPart_v fr + fr 280 48) (a := c0_shuntCells_j13_0 fc) (fc := fc) (g0 := fr) hc hn hg (fun C h => (hC C h).1.2.1.1) h16 (e16.symm.trans h16) (Eq.refl _) (Eq.refl _) ho
  exact ⟨si, c0_given hc hn (c0_chosen0 hj hl s14 wf)⟩
theorem c0_shunt_eq (hc : (fc 1 5).toInt.toNat = n) (hg : (fr 280 2).toInt.toNat = n) (hn : n ≤ 16) (h : c0_RB fc fr n) (h16 : fc 1 16 = 0) (ho : 0 ≤ (fr 280 47).toInt ∧ (fr 280 47).toInt ≤ 16) : c0_RB (c0_shuntCells_m fc) (r_shuntAll_m fr) n := by
  obtain ⟨hs, hC, e14, e15, e11, e13, e16⟩ := h
  have s12 : fc 4 12 = fr 280 46 := hs 12 (by omega)
  obtain ⟨si, gi⟩ := c0_shunt_two hc hg hn ⟨hs, hC, e14, e15, e11, e13, e16⟩ h16 ho
  generalize hb : r_shuntAll_m fr 280 13 = b at gi
  obtain ⟨q1, q2, q3, q4, q5, q6⟩ := gi
  obtain ⟨-, p2, p3, p4, p5⟩ := si
  rw [hb] at p2 p4 p5
  refine ⟨fun k hk => ?_, fun C h => ?_, ?_, ?_, ?_, ?_, ?_⟩
  · rw [q6, p3 (34 + k) (by omega) (by omega) (by omega) (fun D hD => ⟨by omega, by omega⟩)]
    exact hs k hk
  · have rC := (hC C h).1
    have capC := (hC C h).2.1
    have go : ∀ w : Nat, w < 61 → w ≠ 1 → w ≠ 4 → r_shuntAll_m fr 280 (444 + 61 * C + w) = fr 280 (444 + 61 * C + w) := fun w hw h1 h4 => p3 _ (by omega) (by omega) (by omega) (fun D hD => ⟨by omega, by omega⟩)
    by_cases hbt : t2_bt b C = true
    · obtain ⟨x2, x3, x4, x8, xo⟩ := (q1 C h).1 ⟨h, hbt⟩
      obtain ⟨y1, y4⟩ := (p2 C h).1 hbt
      have k := c0_Rc_new (F := c0_shuntCells_m fc) (G := r_shuntAll_m fr) rC capC (by rw [x2, y1, ← rC.1.2.2, ← rC.1.1, t2_les, s12, t2_m32 (3600 : Int32)]; rfl) x3 x4 (by rw [x8, y4, ← rC.2.2.2.1, ← rC.1.1, s12, t2_m32 (3600 : Int32)]; rfl) xo go
      exact ⟨k.1, k.2, c0_ck_held (hC C h).2.2.1 (go 0 (by decide) (by decide) (by decide)) y1⟩
    · have x := (q1 C h).2 (fun q => hbt q.2)
      obtain ⟨y1, y4⟩ := (p2 C h).2 (by cases e : t2_bt b C with | true => exact absurd e hbt | false => rfl)
      have eg : ∀ k : Nat, k < 61 → r_shuntAll_m fr 280 (444 + 61 * C + k) = fr 280 (444 + 61 * C + k) := fun k hk => by
        by_cases k1 : k = 1
        · rw [k1]; exact y1
        · by_cases k4 : k = 4
          · rw [k4]; exact y4
          · exact go k hk k1 k4
      exact ⟨rC.congr x eg, by rw [x]; exact capC, c0_ck_congr (hC C h).2.2 (eg 0 (by decide)) (eg 1 (by decide))⟩
  · rw [q5 14 (by decide) (by decide) (by decide), p3 11 (by decide) (by decide) (by decide) (fun D hD => ⟨by omega, by omega⟩), e14]
  · rw [q5 15 (by decide) (by decide) (by decide), p3 12 (by decide) (by decide) (by decide) (fun D hD => ⟨by omega, by omega⟩), e15]
  · rw [q3, p4, e11]
  · have ev : ∀ k : Nat, k ≤ n → t2_sb b (fun C => t2_min_v (fc 4 12) (fc (18 + 4 * C) 2)) k = t2_sb b (fun C => r_lesser_v (fr 280 46) (fr 280 (444 + 61 * C + 1))) k := by
      intro k
      induction k with
      | zero => intro _; rw [t2_sb_z, t2_sb_z]
      | succ k ih =>
        intro hk
        unfold t2_sb
        rw [ih (by omega), t2_les, s12, (hC k (by omega)).1.1.2.2]
    rw [q2, p5, e13, ev n (Nat.le_refl n)]
  · rw [q4, hb]
theorem c0_balance_eq (hc : (fc 1 5).toInt.toNat = n) (hg : (fr 280 2).toInt.toNat = n) (hn : n ≤ 16) (h : c0_RB fc fr n) (hl : fc 10 3 = fr 280 6) (ht : fc 1 6 = fr 280 7) (ho : 0 ≤ (fr 280 47).toInt ∧ (fr 280 47).toInt ≤ 16) : c0_RB (c0_balance_m fc) (r_goBalance_m fr) n := by
  have c1 : (1 : Int32).toInt = 1 := by decide +kernel
  have c2 : (2 : Int32).toInt = 2 := by decide +kernel
  have s11 : fc 4 11 = fr 280 45 := h.1 11 (by omega)
  have hz : c0_RB (fl_row fc 1 (upd (fc 1) 16 (0 : Int32))) (fl_row (fl_row fr 280 (upd (fr 280) 13 (0 : Int32))) 277 (upd (fr 277) 6 (0 : Int32))) n := by
    obtain ⟨hs, hC, e14, e15, e11, e13, e16⟩ := h
    have g : ∀ w : Nat, w ≠ 13 → (fl_row (fl_row fr 280 (upd (fr 280) 13 (0 : Int32))) 277 (upd (fr 277) 6 (0 : Int32))) 280 w = fr 280 w := fun w hw => by rw [fl_row_ne (by decide), fl_row_self, upd_ne hw]
    refine ⟨hs.congr (fl_row_ne (by decide)) (fun k hk => g _ (by omega)), fun C hC' => ⟨(hC C hC').1.congr (fl_row_ne (by omega)) (fun k hk => g _ (by omega)), by rw [fl_row_ne (by omega)]; exact (hC C hC').2.1, c0_ck_congr (hC C hC').2.2 (g _ (by omega)) (g _ (by omega))⟩, ?_, ?_, ?_, ?_, ?_⟩
    · rw [g 11 (by decide), fl_row_self, upd_ne (by decide), e14]
    · rw [g 12 (by decide), fl_row_self, upd_ne (by decide), e15]
    · rw [g 8 (by decide), fl_row_self, upd_ne (by decide), e11]
    · rw [g 10 (by decide), fl_row_self, upd_ne (by decide), e13]
    · rw [fl_row_self, upd_self, fl_row_ne (by decide), fl_row_self, upd_self]
  unfold c0_balance_m r_goBalance_m
  rw [hl, s11]
  by_cases h6 : (fr 280 6).toInt = 0
  · rw [if_pos h6, if_pos h6]
    by_cases m1 : (fr 280 45).toInt = (1 : Int32).toInt
    · rw [if_pos m1, if_neg (show ¬ (fr 280 45).toInt = (2 : Int32).toInt by omega), if_pos m1]
      refine c0_shunt_eq ?_ ?_ hn hz ?_ ?_
      · rw [fl_row_self, upd_ne (by decide)]
        exact hc
      · rw [fl_row_ne (by decide), fl_row_self, upd_ne (by decide)]
        exact hg
      · rw [fl_row_self, upd_self]
      · rw [fl_row_ne (by decide), fl_row_self, upd_ne (by decide)]
        exact ho
    · rw [if_neg m1]
      by_cases m2 : (fr 280 45).toInt = (2 : Int32).toInt
      · rw [if_pos m2, if_pos m2]
        have ej : c0_balance_j58_0 fc = r_goBalance_j48_0 fr := by
          unfold c0_balance_j58_0 r_goBalance_j48_0
          rw [ht]
        have loop : ∀ k : Nat, k ≤ (n - (r_goBalance_j48_0 fr).toInt.toNat) / 2 → c0_RB (c0_balance_f67 fc k) (r_goBalance_f57 fr k) n := by
          intro k
          induction k with
          | zero =>
            intro _
            show c0_RB (fl_row fc 1 (upd (fc 1) 16 (0 : Int32))) (if (fr 280 45).toInt = (1 : Int32).toInt then _ else _) n
            rw [if_neg m1]
            exact hz
          | succ k ih =>
            intro hk
            show c0_RB (c0_shuttle_m (c0_balance_f67 fc k) ((c0_balance_j58_0 fc).toInt.toNat + 2 * k)) (r_shuttle_m (r_goBalance_f57 fr k) (Int32.ofNat ((r_goBalance_j48_0 fr).toInt.toNat + 2 * k)) ((r_goBalance_j48_0 fr).toInt.toNat + 2 * k)) n
            rw [ej]
            exact c0_shuttle_eq (by omega) (ih (by omega))
        rw [hc, hg, ej]
        exact loop _ (Nat.le_refl _)
      · rw [if_neg m2, if_neg m2, if_neg m1]
        exact hz
  · rw [if_neg h6, if_neg h6]
    exact hz
end C0BAL

/-! ===== block 2: (4) of a second ===== -/
section C2BAL
variable {fc fr F G : t2_F} {C n : Nat}
def c2_RB (fc fr : t2_F) (n : Nat) : Prop := c2_Rs fc fr ∧ (∀ C : Nat, C < n → c2_Rc fc fr C ∧ t2_cap (fc (198 + 4 * C) 0) ∧ t2_ck fr C) ∧ fc 181 14 = fr 280 11 ∧ fc 181 15 = fr 280 12 ∧ fc 181 11 = fr 280 8 ∧ fc 181 13 = fr 280 10 ∧ fc 181 16 = fr 280 13
theorem c2_ck_held {v x : Int32} (hx : t2_cap x) (h0 : G 280 (444 + 61 * C + 0) = x) (h1 : G 280 (444 + 61 * C + 1) = r_held_v v (0 : Int32) ((3600 : Int32) * x)) : t2_ck G C := by
  have hf := t2_full_r hx
  have e0 : (0 : Int32).toInt = 0 := rfl
  have b : (0 : Int32).toInt ≤ (r_held_v v (0 : Int32) ((3600 : Int32) * x)).toInt ∧ (r_held_v v (0 : Int32) ((3600 : Int32) * x)).toInt ≤ ((3600 : Int32) * x).toInt := t2_heldTo_b (v := v) (lo := (0 : Int32)) (hi := (3600 : Int32) * x) (by have := hx.1; omega)
  unfold t2_ck
  rw [h0, h1]
  exact ⟨hx, by omega, by omega⟩
theorem c2_ck_congr (h : t2_ck fr C) (e0 : G 280 (444 + 61 * C + 0) = fr 280 (444 + 61 * C + 0)) (e1 : G 280 (444 + 61 * C + 1) = fr 280 (444 + 61 * C + 1)) : t2_ck G C := by
  unfold t2_ck
  rw [e0, e1]
  exact h
theorem c2_RB.congrG (h : c2_RB fc fr n) (e : G 280 = fr 280) : c2_RB fc G n := by
  obtain ⟨hs, hc, e14, e15, e11, e13, e16⟩ := h
  refine ⟨hs.congr rfl (fun k _ => by rw [e]), fun C hC => ⟨(hc C hC).1.congr rfl (fun k _ => by rw [e]), (hc C hC).2.1, c2_ck_congr (hc C hC).2.2 (by rw [e]) (by rw [e])⟩, ?_, ?_, ?_, ?_, ?_⟩ <;> rw [e] <;> assumption
theorem c2_sh_eq {A B : Nat} {cA cB : Int32} (hA : A < n) (hB : B < n) (hAB : A ≠ B) (h : c2_RB fc fr n) (hG : G 280 = r_sh fr cA cB A B 280) : c2_RB (c2_sh fc A B) G n := by
  obtain ⟨hs, hc, e14, e15, e11, e13, e16⟩ := h
  have rA := (hc A hA).1
  have rB := (hc B hB).1
  have capA := (hc A hA).2.1
  have capB := (hc B hB).2.1
  have s15 : fc 184 15 = fr 280 49 := hs 15 (by omega)
  have s16 : fc 184 16 = fr 280 50 := hs 16 (by omega)
  have a0 := rA.1.1
  have a2 := rA.1.2.2
  have a8 := rA.2.2.2.1
  have b0 := rB.1.1
  have b2 := rB.1.2.2
  have b8 := rB.2.2.2.1
  have ho : r_lesser_v (fr 280 49) (fr 280 (444 + 61 * A + 1)) = t2_min_v (fc 184 15) (fc (198 + 4 * A) 2) := by rw [t2_les, s15, a2]
  have hi : r_lesser_v (t2_min_v (fc 184 15) (fc (198 + 4 * A) 2) * (fr 280 50) / (100 : Int32)) (((3600 : Int32) * (fr 280 (444 + 61 * B + 0))) - (fr 280 (444 + 61 * B + 1))) = t2_min_v (((t2_min_v (fc 184 15) (fc (198 + 4 * A) 2)) * (fc 184 16)) / (100 : Int32)) (((fc (198 + 4 * B) 0) * (3600 : Int32)) - (fc (198 + 4 * B) 2)) := by rw [t2_les, s16, b0, b2, t2_m32 (3600 : Int32)]
  obtain ⟨⟨g1, g2⟩, ⟨g3, g4⟩, go, g11, g12⟩ := r_sh_w (f := fr) (cA := cA) (cB := cB) hAB ho hi
  obtain ⟨⟨wA2, wA3, wA4, wA8, wAo⟩, ⟨wB2, wB3, wB4, wB8, wBo⟩, wp, wo, w14, w15⟩ := c2_sh_w (f := fc) hAB
  refine ⟨fun k hk => ?_, fun C hC => ?_, ?_, ?_, ?_, ?_, ?_⟩
  · rw [wp 184 (by decide) (by omega) (by omega), hG, go (34 + k) (by omega) (by omega) (by omega) (by omega) (by omega) (by omega)]
    exact hs k hk
  · by_cases eA : C = A
    · subst eA
      have k := c2_Rc_new (F := c2_sh fc C B) (G := G) rA capA (by rw [wA2, hG, g1, ← a2, ← a0, t2_m32 (3600 : Int32), Int32.sub_eq_add_neg]; rfl) wA3 wA4 (by rw [wA8, hG, g2, ← a8, ← a0, t2_m32 (3600 : Int32), Int32.sub_eq_add_neg]; rfl) wAo (fun w hw h1 h4 => by rw [hG]; exact go _ (by omega) (by omega) (by omega) (by omega) (by omega) (by omega))
      exact ⟨k.1, k.2, c2_ck_held (hc C hC).2.2.1 (by rw [hG]; exact go _ (by omega) (by omega) (by omega) (by omega) (by omega) (by omega)) (by rw [hG]; exact g1)⟩
    · by_cases eB : C = B
      · subst eB
        have k := c2_Rc_new (F := c2_sh fc A C) (G := G) rB capB (by rw [wB2, hG, g3, ← b2, ← b0, t2_m32 (3600 : Int32)]; rfl) wB3 wB4 (by rw [wB8, hG, g4, ← b8, ← b0, t2_m32 (3600 : Int32)]; rfl) wBo (fun w hw h1 h4 => by rw [hG]; exact go _ (by omega) (by omega) (by omega) (by omega) (by omega) (by omega))
        exact ⟨k.1, k.2, c2_ck_held (hc C hC).2.2.1 (by rw [hG]; exact go _ (by omega) (by omega) (by omega) (by omega) (by omega) (by omega)) (by rw [hG]; exact g3)⟩
      · have ep := wp (198 + 4 * C) (by omega) (by omega) (by omega)
        have eg : ∀ k : Nat, k < 61 → G 280 (444 + 61 * C + k) = fr 280 (444 + 61 * C + k) := fun k hk => by rw [hG]; exact go _ (by omega) (by omega) (by omega) (by omega) (by omega) (by omega)
        exact ⟨(hc C hC).1.congr ep eg, by rw [ep]; exact (hc C hC).2.1, c2_ck_congr (hc C hC).2.2 (eg 0 (by decide)) (eg 1 (by decide))⟩
  · rw [w14, hG, g11, e14]
  · rw [w15, hG, g12, e15]
  · rw [wo 11 (by decide) (by decide), hG, go 8 (by omega) (by omega) (by omega) (by omega) (by omega) (by omega), e11]
  · rw [wo 13 (by decide) (by decide), hG, go 10 (by omega) (by omega) (by omega) (by omega) (by omega) (by omega), e13]
  · rw [wo 16 (by decide) (by decide), hG, go 13 (by omega) (by omega) (by omega) (by omega) (by omega) (by omega), e16]
theorem c2_shuttle_eq {i : Nat} (hi : i + 1 < n) (h : c2_RB fc fr n) : c2_RB (c2_shuttle_m fc i) (r_shuttle_m fr (Int32.ofNat i) i) n := by
  have hs14 : fc 184 14 = fr 280 48 := h.1 14 (by omega)
  have pi : fc (198 + 4 * i) 3 = r_partOf_v fr (Int32.ofNat i) i := (h.2.1 i (by omega)).1.2.1.1
  have pj : fc (198 + 4 * (i + 1)) 3 = r_partOf_v fr (Int32.ofNat i + (1 : Int32)) (i + 1) := (h.2.1 (i + 1) hi).1.2.1.1
  have bi : 0 ≤ (r_partOf_v fr (Int32.ofNat i) i).toInt ∧ (r_partOf_v fr (Int32.ofNat i) i).toInt ≤ 1000 := t2_ckp (h.2.1 i (by omega)).2.2
  have bj : 0 ≤ (r_partOf_v fr (Int32.ofNat i + (1 : Int32)) (i + 1)).toInt ∧ (r_partOf_v fr (Int32.ofNat i + (1 : Int32)) (i + 1)).toInt ≤ 1000 := t2_ckp (h.2.1 (i + 1) hi).2.2
  have hG := r_shuttle_sh (f := fr) (c := Int32.ofNat i) (C := i)
  rw [c2_shuttle_sh, hs14, pi, pj]
  have hd : (r_partOf_v fr (Int32.ofNat i) i - r_partOf_v fr (Int32.ofNat i + (1 : Int32)) (i + 1)).toInt = (r_partOf_v fr (Int32.ofNat i) i).toInt - (r_partOf_v fr (Int32.ofNat i + (1 : Int32)) (i + 1)).toInt := at_sub32 (by omega) (by omega)
  by_cases h1 : (fr 280 48).toInt < (r_size_v (r_partOf_v fr (Int32.ofNat i) i - r_partOf_v fr (Int32.ofNat i + (1 : Int32)) (i + 1))).toInt
  · rw [if_pos h1] at hG
    have h1' : (fr 280 48).toInt < (t2_abs_v (r_partOf_v fr (Int32.ofNat i) i - r_partOf_v fr (Int32.ofNat i + (1 : Int32)) (i + 1))).toInt := h1
    rw [if_pos h1']
    by_cases h2 : 0 < (r_partOf_v fr (Int32.ofNat i) i - r_partOf_v fr (Int32.ofNat i + (1 : Int32)) (i + 1)).toInt
    · rw [if_pos h2] at hG
      rw [if_pos (by omega)]
      exact c2_sh_eq (by omega) hi (by omega) h hG
    · rw [if_neg h2] at hG
      rw [if_neg (by omega)]
      exact c2_sh_eq hi (by omega) (by omega) h hG
  · rw [if_neg h1] at hG
    have h1' : ¬ (fr 280 48).toInt < (t2_abs_v (r_partOf_v fr (Int32.ofNat i) i - r_partOf_v fr (Int32.ofNat i + (1 : Int32)) (i + 1))).toInt := h1
    rw [if_neg h1']
    exact h.congrG hG
theorem c2_given {b : Int32} (hc : (fc 181 5).toInt.toNat = n) (hn : n ≤ 16) (F0 : c2_shuntCells_f95 fc 0 = fl_row fc 181 (upd (fc 181) 16 b)) : c2_GI fc (c2_shuntCells_m fc) b n n := by
  have gi : ∀ k : Nat, k ≤ n → c2_GI fc (c2_shuntCells_f95 fc k) b n k := by
    intro k
    induction k with
    | zero =>
      intro _
      rw [F0]
      refine ⟨fun C h => ⟨fun q => absurd q.1 (Nat.not_lt_zero C), fun _ => fl_row_ne (by omega)⟩, ?_, ?_, ?_, fun j j1 j2 j3 => ?_, fl_row_ne (by decide)⟩
      · rw [fl_row_self, upd_ne (by decide), t2_sb_z, Int32.add_zero]
      · rw [fl_row_self, upd_ne (by decide), t2_sb_z, Int32.add_zero]
      · rw [fl_row_self, upd_self]
      · rw [fl_row_self, upd_ne j3]
    | succ k ih =>
      intro hk
      unfold c2_shuntCells_f95
      exact c2_GI_step hn (by omega) (ih (by omega))
  have m : c2_shuntCells_m fc = c2_shuntCells_f95 fc n := by
    unfold c2_shuntCells_m
    rw [hc]
  rw [m]
  exact gi n (Nat.le_refl n)
theorem c2_chosen0 {b : Int32} (hj : c2_shuntCells_j13_0 fc = r_shuntAll_j24_0 fr) (hl : c2_leastPart_v fc = r_leastPart_v fr) (s14 : fc 184 14 = fr 280 48) (wf : t2_wf (fun f' => c2_shuntCells_g49 f' (c2_shuntCells_j13_0 fc) (r_leastPart_v fr + fr 280 48)) (r_shuntAll_j24_0 fr).toInt.toNat fc = fl_row fc 181 (upd (fc 181) 16 b)) : c2_shuntCells_f95 fc 0 = fl_row fc 181 (upd (fc 181) 16 b) := by
  unfold c2_shuntCells_f95
  rw [← wf, ← hj, hl, s14]
theorem c2_shunt_two (hc : (fc 181 5).toInt.toNat = n) (hg : (fr 280 2).toInt.toNat = n) (hn : n ≤ 16) (h : c2_RB fc fr n) (h16 : fc 181 16 = 0) (ho : 0 ≤ (fr 280 47).toInt ∧ (fr 280 47).toInt ≤ 16) : r_SI fr (r_shuntAll_m fr) n ∧ c2_GI fc (c2_shuntCells_m fc) (r_shuntAll_m fr 280 13) n n := by
  obtain ⟨hs, hC, e14, e15, e11, e13, e16⟩ := h
  have s2 : fc 184 2 = fr 280 36 := hs 2 (by omega)
  have s12 : fc 184 12 = fr 280 46 := hs 12 (by omega)
  have s13 : fc 184 13 = fr 280 47 := hs 13 (by omega)
  have s14 : fc 184 14 = fr 280 48 := hs 14 (by omega)
  have hj : c2_shuntCells_j13_0 fc = r_shuntAll_j24_0 fr := by
    unfold c2_shuntCells_j13_0 r_shuntAll_j24_0
    rw [e11, s2, s13]
  have hl : c2_leastPart_v fc = r_leastPart_v fr := by
    unfold c2_leastPart_v r_leastPart_v
    rw [hc, hg]
    exact c2_least_eq (fun C h => (hC C h).1)
  obtain ⟨si, wf⟩ := c2_chosen (X := (r_shuntAll_j24_0 fr).toInt.toNat) (above := r_leastPart_v fr + fr 280 48) (a := c2_shuntCells_j13_0 fc) (fc := fc) (g0 := fr) hc hn hg (fun C h => (hC C h).1.2.1.1) h16 (e16.symm.trans h16) (Eq.refl _) (Eq.refl _) ho
  exact ⟨si, c2_given hc hn (c2_chosen0 hj hl s14 wf)⟩
theorem c2_shunt_eq (hc : (fc 181 5).toInt.toNat = n) (hg : (fr 280 2).toInt.toNat = n) (hn : n ≤ 16) (h : c2_RB fc fr n) (h16 : fc 181 16 = 0) (ho : 0 ≤ (fr 280 47).toInt ∧ (fr 280 47).toInt ≤ 16) : c2_RB (c2_shuntCells_m fc) (r_shuntAll_m fr) n := by
  obtain ⟨hs, hC, e14, e15, e11, e13, e16⟩ := h
  have s12 : fc 184 12 = fr 280 46 := hs 12 (by omega)
  obtain ⟨si, gi⟩ := c2_shunt_two hc hg hn ⟨hs, hC, e14, e15, e11, e13, e16⟩ h16 ho
  generalize hb : r_shuntAll_m fr 280 13 = b at gi
  obtain ⟨q1, q2, q3, q4, q5, q6⟩ := gi
  obtain ⟨-, p2, p3, p4, p5⟩ := si
  rw [hb] at p2 p4 p5
  refine ⟨fun k hk => ?_, fun C h => ?_, ?_, ?_, ?_, ?_, ?_⟩
  · rw [q6, p3 (34 + k) (by omega) (by omega) (by omega) (fun D hD => ⟨by omega, by omega⟩)]
    exact hs k hk
  · have rC := (hC C h).1
    have capC := (hC C h).2.1
    have go : ∀ w : Nat, w < 61 → w ≠ 1 → w ≠ 4 → r_shuntAll_m fr 280 (444 + 61 * C + w) = fr 280 (444 + 61 * C + w) := fun w hw h1 h4 => p3 _ (by omega) (by omega) (by omega) (fun D hD => ⟨by omega, by omega⟩)
    by_cases hbt : t2_bt b C = true
    · obtain ⟨x2, x3, x4, x8, xo⟩ := (q1 C h).1 ⟨h, hbt⟩
      obtain ⟨y1, y4⟩ := (p2 C h).1 hbt
      have k := c2_Rc_new (F := c2_shuntCells_m fc) (G := r_shuntAll_m fr) rC capC (by rw [x2, y1, ← rC.1.2.2, ← rC.1.1, t2_les, s12, t2_m32 (3600 : Int32)]; rfl) x3 x4 (by rw [x8, y4, ← rC.2.2.2.1, ← rC.1.1, s12, t2_m32 (3600 : Int32)]; rfl) xo go
      exact ⟨k.1, k.2, c2_ck_held (hC C h).2.2.1 (go 0 (by decide) (by decide) (by decide)) y1⟩
    · have x := (q1 C h).2 (fun q => hbt q.2)
      obtain ⟨y1, y4⟩ := (p2 C h).2 (by cases e : t2_bt b C with | true => exact absurd e hbt | false => rfl)
      have eg : ∀ k : Nat, k < 61 → r_shuntAll_m fr 280 (444 + 61 * C + k) = fr 280 (444 + 61 * C + k) := fun k hk => by
        by_cases k1 : k = 1
        · rw [k1]; exact y1
        · by_cases k4 : k = 4
          · rw [k4]; exact y4
          · exact go k hk k1 k4
      exact ⟨rC.congr x eg, by rw [x]; exact capC, c2_ck_congr (hC C h).2.2 (eg 0 (by decide)) (eg 1 (by decide))⟩
  · rw [q5 14 (by decide) (by decide) (by decide), p3 11 (by decide) (by decide) (by decide) (fun D hD => ⟨by omega, by omega⟩), e14]
  · rw [q5 15 (by decide) (by decide) (by decide), p3 12 (by decide) (by decide) (by decide) (fun D hD => ⟨by omega, by omega⟩), e15]
  · rw [q3, p4, e11]
  · have ev : ∀ k : Nat, k ≤ n → t2_sb b (fun C => t2_min_v (fc 184 12) (fc (198 + 4 * C) 2)) k = t2_sb b (fun C => r_lesser_v (fr 280 46) (fr 280 (444 + 61 * C + 1))) k := by
      intro k
      induction k with
      | zero => intro _; rw [t2_sb_z, t2_sb_z]
      | succ k ih =>
        intro hk
        unfold t2_sb
        rw [ih (by omega), t2_les, s12, (hC k (by omega)).1.1.2.2]
    rw [q2, p5, e13, ev n (Nat.le_refl n)]
  · rw [q4, hb]
theorem c2_balance_eq (hc : (fc 181 5).toInt.toNat = n) (hg : (fr 280 2).toInt.toNat = n) (hn : n ≤ 16) (h : c2_RB fc fr n) (hl : fc 190 3 = fr 280 6) (ht : fc 181 6 = fr 280 7) (ho : 0 ≤ (fr 280 47).toInt ∧ (fr 280 47).toInt ≤ 16) : c2_RB (c2_balance_m fc) (r_goBalance_m fr) n := by
  have c1 : (1 : Int32).toInt = 1 := by decide +kernel
  have c2 : (2 : Int32).toInt = 2 := by decide +kernel
  have s11 : fc 184 11 = fr 280 45 := h.1 11 (by omega)
  have hz : c2_RB (fl_row fc 181 (upd (fc 181) 16 (0 : Int32))) (fl_row (fl_row fr 280 (upd (fr 280) 13 (0 : Int32))) 277 (upd (fr 277) 6 (0 : Int32))) n := by
    obtain ⟨hs, hC, e14, e15, e11, e13, e16⟩ := h
    have g : ∀ w : Nat, w ≠ 13 → (fl_row (fl_row fr 280 (upd (fr 280) 13 (0 : Int32))) 277 (upd (fr 277) 6 (0 : Int32))) 280 w = fr 280 w := fun w hw => by rw [fl_row_ne (by decide), fl_row_self, upd_ne hw]
    refine ⟨hs.congr (fl_row_ne (by decide)) (fun k hk => g _ (by omega)), fun C hC' => ⟨(hC C hC').1.congr (fl_row_ne (by omega)) (fun k hk => g _ (by omega)), by rw [fl_row_ne (by omega)]; exact (hC C hC').2.1, c2_ck_congr (hC C hC').2.2 (g _ (by omega)) (g _ (by omega))⟩, ?_, ?_, ?_, ?_, ?_⟩
    · rw [g 11 (by decide), fl_row_self, upd_ne (by decide), e14]
    · rw [g 12 (by decide), fl_row_self, upd_ne (by decide), e15]
    · rw [g 8 (by decide), fl_row_self, upd_ne (by decide), e11]
    · rw [g 10 (by decide), fl_row_self, upd_ne (by decide), e13]
    · rw [fl_row_self, upd_self, fl_row_ne (by decide), fl_row_self, upd_self]
  unfold c2_balance_m r_goBalance_m
  rw [hl, s11]
  by_cases h6 : (fr 280 6).toInt = 0
  · rw [if_pos h6, if_pos h6]
    by_cases m1 : (fr 280 45).toInt = (1 : Int32).toInt
    · rw [if_pos m1, if_neg (show ¬ (fr 280 45).toInt = (2 : Int32).toInt by omega), if_pos m1]
      refine c2_shunt_eq ?_ ?_ hn hz ?_ ?_
      · rw [fl_row_self, upd_ne (by decide)]
        exact hc
      · rw [fl_row_ne (by decide), fl_row_self, upd_ne (by decide)]
        exact hg
      · rw [fl_row_self, upd_self]
      · rw [fl_row_ne (by decide), fl_row_self, upd_ne (by decide)]
        exact ho
    · rw [if_neg m1]
      by_cases m2 : (fr 280 45).toInt = (2 : Int32).toInt
      · rw [if_pos m2, if_pos m2]
        have ej : c2_balance_j58_0 fc = r_goBalance_j48_0 fr := by
          unfold c2_balance_j58_0 r_goBalance_j48_0
          rw [ht]
        have loop : ∀ k : Nat, k ≤ (n - (r_goBalance_j48_0 fr).toInt.toNat) / 2 → c2_RB (c2_balance_f67 fc k) (r_goBalance_f57 fr k) n := by
          intro k
          induction k with
          | zero =>
            intro _
            show c2_RB (fl_row fc 181 (upd (fc 181) 16 (0 : Int32))) (if (fr 280 45).toInt = (1 : Int32).toInt then _ else _) n
            rw [if_neg m1]
            exact hz
          | succ k ih =>
            intro hk
            show c2_RB (c2_shuttle_m (c2_balance_f67 fc k) ((c2_balance_j58_0 fc).toInt.toNat + 2 * k)) (r_shuttle_m (r_goBalance_f57 fr k) (Int32.ofNat ((r_goBalance_j48_0 fr).toInt.toNat + 2 * k)) ((r_goBalance_j48_0 fr).toInt.toNat + 2 * k)) n
            rw [ej]
            exact c2_shuttle_eq (by omega) (ih (by omega))
        rw [hc, hg, ej]
        exact loop _ (Nat.le_refl _)
      · rw [if_neg m2, if_neg m2, if_neg m1]
        exact hz
  · rw [if_neg h6, if_neg h6]
    exact hz
end C2BAL

end

/-! 94.06.num6.lean.txt -/
section
/-! ===== what a rest tells: numbers ===== -/
theorem t2_chg {P c : Int32} (hP : 0 ≤ P.toInt ∧ P.toInt ≤ 1000) (hc : t2_cap c) : (t2_chargeBy_v P c).toInt = P.toInt * c.toInt * 36 / 10 ∧ 0 ≤ (t2_chargeBy_v P c).toInt ∧ (t2_chargeBy_v P c).toInt ≤ 3600 * c.toInt ∧ ((((36 : Int64) * P.toInt64) * c.toInt64) / (10 : Int64)).toInt32 = t2_chargeBy_v P c := by
  have c36 : (36 : Int32).toInt = 36 := by decide +kernel
  have c10 : (10 : Int32).toInt = 10 := by decide +kernel
  have d36 : (36 : Int64).toInt = 36 := by decide +kernel
  have d10 : (10 : Int64).toInt = 10 := by decide +kernel
  have hc1 := hc.1
  have hc2 := hc.2
  have hq : 0 ≤ P.toInt * c.toInt := Int.mul_nonneg hP.1 (by omega)
  have hq2 : P.toInt * c.toInt ≤ 1000 * c.toInt := Int.mul_le_mul_of_nonneg_right hP.2 (by omega)
  have e1 : (P * c).toInt = P.toInt * c.toInt := at_mul32 (by omega) (by omega)
  have e2 : (P * c * (36 : Int32)).toInt = P.toInt * c.toInt * 36 := by
    rw [at_mul32 (by rw [e1, c36]; omega) (by rw [e1, c36]; omega), e1, c36]
  have e3 : (t2_chargeBy_v P c).toInt = P.toInt * c.toInt * 36 / 10 := by
    unfold t2_chargeBy_v
    rw [at_div32 (by omega) (by omega), e2, c10]
  have f1 : ((36 : Int64) * P.toInt64).toInt = 36 * P.toInt := by
    rw [Int64.toInt_mul, t2_i64, d36]
    exact Int.bmod_eq_of_le (by omega) (by omega)
  have eq36 : 36 * P.toInt * c.toInt = P.toInt * c.toInt * 36 := by rw [Int.mul_assoc, Int.mul_comm]
  have f2 : (((36 : Int64) * P.toInt64) * c.toInt64).toInt = P.toInt * c.toInt * 36 := by
    rw [Int64.toInt_mul, t2_i64, f1, eq36]
    exact Int.bmod_eq_of_le (by omega) (by omega)
  have f3 : ((((36 : Int64) * P.toInt64) * c.toInt64) / (10 : Int64)).toInt = P.toInt * c.toInt * 36 / 10 := by
    rw [Int64.toInt_div, f2, d10, Int.tdiv_eq_ediv_of_nonneg (by omega)]
    exact Int.bmod_eq_of_le (by omega) (by omega)
  refine ⟨e3, by omega, by omega, Int32.toInt.inj ?_⟩
  rw [Int64.toInt_toInt32, f3, e3]
  exact Int.bmod_eq_of_le (by omega) (by omega)
theorem t2_gue {w y : Int32} (hw : 0 ≤ w.toInt ∧ w.toInt ≤ 1001) : ((1000 : Int64) * y.toInt64) / ((3600 : Int32) * w).toInt64 = (y.toInt64 * (1000 : Int64)) / (w.toInt64 * (3600 : Int64)) := by
  have c36 : (3600 : Int32).toInt = 3600 := by decide +kernel
  have d36 : (3600 : Int64).toInt = 3600 := by decide +kernel
  have e1 : (1000 : Int64) * y.toInt64 = y.toInt64 * (1000 : Int64) := Int64.mul_comm _ _
  have e2 : ((3600 : Int32) * w).toInt64 = w.toInt64 * (3600 : Int64) := by
    apply Int64.toInt.inj
    rw [t2_i64, at_mul32 (by rw [c36]; omega) (by rw [c36]; omega), c36, Int64.toInt_mul, t2_i64, d36]
    rw [Int.bmod_eq_of_le (by omega) (by omega)]
    omega
  rw [e1, e2]
theorem t2_abs_d {p q : Int32} (hp : 0 ≤ p.toInt ∧ p.toInt ≤ 1000) (hw : -1 ≤ q.toInt ∧ q.toInt ≤ 1000) : 0 ≤ (t2_abs_v (p - q)).toInt ∧ (t2_abs_v (p - q)).toInt ≤ 1001 := by
  have e : (p - q).toInt = p.toInt - q.toInt := at_sub32 (by omega) (by omega)
  have e2 : (-(p - q)).toInt = -(p.toInt - q.toInt) := by
    rw [Int32.toInt_neg, e]
    exact Int.bmod_eq_of_le (by omega) (by omega)
  unfold t2_abs_v
  split <;> omega
theorem t2_held_id {v y : Int32} (h0 : 0 ≤ v.toInt) (h1 : v.toInt ≤ y.toInt) : t2_heldTo_v v (0 : Int32) y = v := by
  have e0 : (0 : Int32).toInt = 0 := rfl
  unfold t2_heldTo_v
  rw [if_neg (by omega), if_neg (by omega)]
/-! the reference, a cell by its words, (6) -/
section R6
variable {g : t2_F} {k C : Nat} {z c : Int32}
theorem r_b17_w : r_goMeasure_b17_m g z k 280 (444 + 61 * k + 11) = r_goMeasure_b17_j41_0 g z k ∧ r_goMeasure_b17_m g z k 280 (444 + 61 * k + 14) = r_voltsOf_v g (Int32.ofNat k) k ∧ r_goMeasure_b17_m g z k 280 (444 + 61 * k + 15) = (1 : Int32) ∧ r_goMeasure_b17_m g z k 280 (444 + 61 * k + 13) = g 280 (444 + 61 * k + 13) + g 280 5 := by
  unfold r_goMeasure_b17_m
  refine ⟨?_, ?_, ?_, ?_⟩ <;> simp (disch := omega) only [fl_row_self, upd_self, upd_ne]
theorem r_rest_w : r_restNow_m g c C 280 (444 + 61 * C + 4) = r_chargeAt_v g c C (t2_pb (r_voltsOf_v g c C)) ∧ r_restNow_m g c C 280 (444 + 61 * C + 12) = r_restNow_j32_0 g c C ∧ r_restNow_m g c C 280 (444 + 61 * C + 16) = t2_pb (r_voltsOf_v g c C) ∧ r_restNow_m g c C 280 (444 + 61 * C + 13) = 0 := by
  unfold r_restNow_m
  refine ⟨?_, ?_, ?_, ?_⟩ <;> simp (disch := omega) only [fl_row_self, upd_self, upd_ne]
theorem r_volts_c {f f' : t2_F} (h5 : f' 280 5 = f 280 5) (h0 : f' 280 (444 + 61 * C + 0) = f 280 (444 + 61 * C + 0)) (h1 : f' 280 (444 + 61 * C + 1) = f 280 (444 + 61 * C + 1)) (h2 : f' 280 (444 + 61 * C + 2) = f 280 (444 + 61 * C + 2)) (h9 : f' 280 (444 + 61 * C + 9) = f 280 (444 + 61 * C + 9)) : r_voltsOf_v f' c C = r_voltsOf_v f c C := by
  unfold r_voltsOf_v r_calmVolts_v r_partOf_v
  rw [h5, h0, h1, h2, h9]
theorem r_pack_c {f f' : t2_F} {n : Nat} (h5 : f' 280 5 = f 280 5) (h : ∀ C : Nat, C < n → ∀ w : Nat, (w = 0 ∨ w = 1 ∨ w = 2 ∨ w = 9) → f' 280 (444 + 61 * C + w) = f 280 (444 + 61 * C + w)) : r_pack_a4 f' n = r_pack_a4 f n := by
  induction n with
  | zero => rfl
  | succ n ih =>
    show r_pack_a4 f' n + r_voltsOf_v f' (Int32.ofNat n) n = r_pack_a4 f n + r_voltsOf_v f (Int32.ofNat n) n
    rw [ih (fun C hC => h C (by omega)), r_volts_c h5 (h n (by omega) 0 (by omega)) (h n (by omega) 1 (by omega)) (h n (by omega) 2 (by omega)) (h n (by omega) 9 (by omega))]
/-! a cell behind the first loop -/
theorem r_f17_in {f : t2_F} {w : Nat} (hw : w < 61) : ∀ {k : Nat}, C < k → r_goMeasure_f17 f k 280 (444 + 61 * C + w) = r_goMeasure_b17_m (r_goMeasure_f17 f C) ((f 280 5) - (f 280 14)) C 280 (444 + 61 * C + w) := by
  intro k
  induction k with
  | zero => intro h; exact absurd h (Nat.not_lt_zero _)
  | succ k ih =>
    intro h
    by_cases e : C = k
    · subst e
      rfl
    · exact (r_goMeasure_b17_w (f := r_goMeasure_f17 f k) (k := k) (w := 444 + 61 * C + w) (by omega) (by omega) (by omega) (by omega)).trans (ih (by omega))
theorem r_f17_me {f : t2_F} {w : Nat} (hw : w < 61) : r_goMeasure_f17 f C 280 (444 + 61 * C + w) = f 280 (444 + 61 * C + w) := r_goMeasure_f17_w (k := C) (fun j hj => by omega) (fun j hj => by omega) (fun j hj => by omega) (fun j hj => by omega)
theorem r_f17_lo {f : t2_F} {k w : Nat} (hw : w < 444) : r_goMeasure_f17 f k 280 w = f 280 w := r_goMeasure_f17_w (k := k) (fun j hj => by omega) (fun j hj => by omega) (fun j hj => by omega) (fun j hj => by omega)
theorem r_f17_o {f : t2_F} {k w : Nat} (hw : w < 61) (h1 : w ≠ 11) (h2 : w ≠ 14) (h3 : w ≠ 15) (h4 : w ≠ 13) : r_goMeasure_f17 f k 280 (444 + 61 * C + w) = f 280 (444 + 61 * C + w) := r_goMeasure_f17_w (k := k) (fun j hj => by omega) (fun j hj => by omega) (fun j hj => by omega) (fun j hj => by omega)
theorem r_f17_w {f : t2_F} (hC : C < k) : r_goMeasure_f17 f k 280 (444 + 61 * C + 11) = r_goMeasure_b17_j41_0 f ((f 280 5) - (f 280 14)) C ∧ r_goMeasure_f17 f k 280 (444 + 61 * C + 14) = r_voltsOf_v f (Int32.ofNat C) C ∧ r_goMeasure_f17 f k 280 (444 + 61 * C + 15) = (1 : Int32) ∧ r_goMeasure_f17 f k 280 (444 + 61 * C + 13) = f 280 (444 + 61 * C + 13) + f 280 5 := by
  obtain ⟨h1, h2, h3, h4⟩ := r_b17_w (g := r_goMeasure_f17 f C) (z := (f 280 5) - (f 280 14)) (k := C)
  have ev : r_voltsOf_v (r_goMeasure_f17 f C) (Int32.ofNat C) C = r_voltsOf_v f (Int32.ofNat C) C := r_volts_c (r_f17_lo (by decide)) (r_f17_me (by decide)) (r_f17_me (by decide)) (r_f17_me (by decide)) (r_f17_me (by decide))
  refine ⟨?_, ?_, ?_, ?_⟩
  · rw [r_f17_in (by decide) hC, h1]
    unfold r_goMeasure_b17_j41_0
    rw [ev, r_f17_me (by decide), r_f17_me (by decide), r_f17_me (by decide)]
  · rw [r_f17_in (by decide) hC, h2, ev]
  · rw [r_f17_in (by decide) hC, h3]
  · rw [r_f17_in (by decide) hC, h4, r_f17_me (by decide), r_f17_lo (by decide)]
/-! and behind the second -/
theorem r_f163_in {f : t2_F} {w : Nat} (hw : w < 61) : ∀ {k : Nat}, C < k → r_goMeasure_f163 f k 280 (444 + 61 * C + w) = r_restNow_m (r_goMeasure_f163 f C) (Int32.ofNat C) C 280 (444 + 61 * C + w) := by
  intro k
  induction k with
  | zero => intro h; exact absurd h (Nat.not_lt_zero _)
  | succ k ih =>
    intro h
    by_cases e : C = k
    · subst e
      rfl
    · exact (r_goMeasure_b163_w (f := r_goMeasure_f163 f k) (z := (f 280 5) - (f 280 14)) (k := k) (w := 444 + 61 * C + w) (by omega) (by omega) (by omega) (by omega)).trans (ih (by omega))
theorem r_f163_me {f : t2_F} {w : Nat} (hw : w < 61) : r_goMeasure_f163 f C 280 (444 + 61 * C + w) = r_goMeasure_f17 f ((f 280 2).toInt.toNat) 280 (444 + 61 * C + w) := by
  rw [r_goMeasure_f163_w (k := C) (fun j hj => by omega) (fun j hj => by omega) (fun j hj => by omega) (fun j hj => by omega), fl_row_self, upd_ne (by omega), upd_ne (by omega)]
theorem r_f163_lo {f : t2_F} {k w : Nat} (hw : w < 444) (h9 : w ≠ 9) (h14 : w ≠ 14) : r_goMeasure_f163 f k 280 w = f 280 w := by
  rw [r_goMeasure_f163_w (k := k) (fun j hj => by omega) (fun j hj => by omega) (fun j hj => by omega) (fun j hj => by omega), fl_row_self, upd_ne h9, upd_ne h14, r_f17_lo hw]
theorem r_f163_o {f : t2_F} {k w : Nat} (hw : w < 61) (h1 : w ≠ 4) (h2 : w ≠ 12) (h3 : w ≠ 16) (h4 : w ≠ 13) : r_goMeasure_f163 f k 280 (444 + 61 * C + w) = r_goMeasure_f17 f ((f 280 2).toInt.toNat) 280 (444 + 61 * C + w) := by
  rw [r_goMeasure_f163_w (k := k) (fun j hj => by omega) (fun j hj => by omega) (fun j hj => by omega) (fun j hj => by omega), fl_row_self, upd_ne (by omega), upd_ne (by omega)]
end R6

end
