noncomputable def c0_zoneCurrent_a5 (f : t2_F) (w : Int32) : Nat → Int32
  | 0 => (2147483647 : Int32)
  | k5 + 1 => if w.toInt < (f 7 (2 * k5)).toInt then c0_zoneCurrent_a5 f w k5 else f 7 (2 * k5 + 1)
noncomputable def c0_zoneCurrent_v (f : t2_F) (w : Int32) : Int32 := c0_zoneCurrent_a5 f w ((f 3 6).toInt.toNat)
theorem c0_zoneCurrent_q {L : Nat} {xs : Nat → Int32} {f : t2_F} {l : t2_L} {Q : Option fl_V → fl_M → Prop} {w : Int32} (hz : 0 ≤ (f 3 6).toInt ∧ (f 3 6).toInt ≤ 6) (k : Q (some (.inl (c0_zoneCurrent_v f w))) (f, l)) : fl_Tq (pw_P L xs) 79 0 (fl_args (am_mxl (pw_P L xs) 79) [.inr (.inr (.inl (3, 3))), .inl w]) [] (f, l) Q := by
  refine fl_Tq.stp (pc' := 2) (lv' := [some (.inr (.inr (.inl (3, 3)))), some (.inl w), none, none]) (st' := [.inl (2147483647 : Int32)]) (m' := (f, l)) rfl rfl (fl_bo rfl) rfl ?_
  refine fl_Tq.stp (pc' := 3) (lv' := [some (.inr (.inr (.inl (3, 3)))), some (.inl w), some (.inl (2147483647 : Int32)), none]) (st' := []) (m' := (f, l)) rfl rfl (fl_bo rfl) rfl ?_
  refine fl_Tq.cI (c := (0 : Int32)) rfl (by decide +kernel) (fl_bo rfl) ?_
  refine fl_Tq.stp (pc' := 5) (lv' := [some (.inr (.inr (.inl (3, 3)))), some (.inl w), some (.inl (2147483647 : Int32)), some (.inl (0 : Int32))]) (st' := []) (m' := (f, l)) rfl rfl (fl_bo rfl) rfl ?_
  have hs5 : ∀ k5 : Nat, k5 < (f 3 6).toInt.toNat → fl_Tq (pw_P L xs) 79 5 [some (.inr (.inr (.inl (3, 3)))), some (.inl w), some (.inl (c0_zoneCurrent_a5 f w (k5 + 1))), some (.inl (Int32.ofNat (k5 + 1)))] [] (f, l) Q → fl_Tq (pw_P L xs) 79 5 [some (.inr (.inr (.inl (3, 3)))), some (.inl w), some (.inl (c0_zoneCurrent_a5 f w k5)), some (.inl (Int32.ofNat k5))] [] (f, l) Q := by
    intro k5 hk5 hS
    refine fl_Tq.stp (pc' := 6) (lv' := [some (.inr (.inr (.inl (3, 3)))), some (.inl w), some (.inl (c0_zoneCurrent_a5 f w k5)), some (.inl (Int32.ofNat k5))]) (st' := [.inl (Int32.ofNat k5)]) (m' := (f, l)) rfl rfl (fl_bo rfl) rfl ?_
    refine fl_Tq.stp (pc' := 7) (lv' := [some (.inr (.inr (.inl (3, 3)))), some (.inl w), some (.inl (c0_zoneCurrent_a5 f w k5)), some (.inl (Int32.ofNat k5))]) (st' := [.inr (.inr (.inl (3, 3))), .inl (Int32.ofNat k5)]) (m' := (f, l)) rfl rfl (fl_bo rfl) rfl ?_
    refine fl_Tq.gfV (k := 6) (v := f 3 6) rfl (fl_bo rfl) rfl rfl ?_
    refine fl_Tq.jf rfl (fl_bo rfl) (c2_ge_f (t2_lk hk5 (t2_nn hz.1))) rfl ?_
    refine fl_Tq.stp (pc' := 14) (lv' := [some (.inr (.inr (.inl (3, 3)))), some (.inl w), some (.inl (c0_zoneCurrent_a5 f w k5)), some (.inl (Int32.ofNat k5))]) (st' := [.inl w]) (m' := (f, l)) rfl rfl (fl_bo rfl) rfl ?_
    refine fl_Tq.stp (pc' := 15) (lv' := [some (.inr (.inr (.inl (3, 3)))), some (.inl w), some (.inl (c0_zoneCurrent_a5 f w k5)), some (.inl (Int32.ofNat k5))]) (st' := [.inr (.inr (.inl (3, 3))), .inl w]) (m' := (f, l)) rfl rfl (fl_bo rfl) rfl ?_
    refine fl_Tq.stp (pc' := 18) (lv' := [some (.inr (.inr (.inl (3, 3)))), some (.inl w), some (.inl (c0_zoneCurrent_a5 f w k5)), some (.inl (Int32.ofNat k5))]) (st' := [.inr (.inr (.inl (7, 7))), .inl w]) (m' := (f, l)) rfl rfl (fl_bo rfl) rfl ?_
    refine fl_Tq.stp (pc' := 19) (lv' := [some (.inr (.inr (.inl (3, 3)))), some (.inl w), some (.inl (c0_zoneCurrent_a5 f w k5)), some (.inl (Int32.ofNat k5))]) (st' := [.inl (Int32.ofNat k5), .inr (.inr (.inl (7, 7))), .inl w]) (m' := (f, l)) rfl rfl (fl_bo rfl) rfl ?_
    refine fl_Tq.cI (c := (2 : Int32)) rfl (by decide +kernel) (fl_bo rfl) ?_
    refine fl_Tq.stp (pc' := 21) (lv' := [some (.inr (.inr (.inl (3, 3)))), some (.inl w), some (.inl (c0_zoneCurrent_a5 f w k5)), some (.inl (Int32.ofNat k5))]) (st' := [.inl ((Int32.ofNat k5) * (2 : Int32)), .inr (.inr (.inl (7, 7))), .inl w]) (m' := (f, l)) rfl rfl (fl_bo rfl) rfl ?_
    refine fl_Tq.ldV (p := 7) (τ := 7) (n := 12) (z := (0, 0, 0)) (k := 2 * k5) (v := f 7 (2 * k5)) rfl (fl_bo rfl) rfl (t2_i2 (by omega)) (by omega) rfl ?_
    have hj28 : fl_Tq (pw_P L xs) 79 36 [some (.inr (.inr (.inl (3, 3)))), some (.inl w), some (.inl (if w.toInt < (f 7 (2 * k5)).toInt then c0_zoneCurrent_a5 f w k5 else f 7 (2 * k5 + 1))), some (.inl (Int32.ofNat k5))] [] (f, l) Q → fl_Tq (pw_P L xs) 79 22 [some (.inr (.inr (.inl (3, 3)))), some (.inl w), some (.inl (c0_zoneCurrent_a5 f w k5)), some (.inl (Int32.ofNat k5))] [.inl (f 7 (2 * k5)), .inl w] (f, l) Q := by
      intro hJ
      by_cases h1 : w.toInt < (f 7 (2 * k5)).toInt
      · refine fl_Tq.jt rfl (fl_bo rfl) (c2_lt_t h1) rfl ?_
        have e0 : (if w.toInt < (f 7 (2 * k5)).toInt then c0_zoneCurrent_a5 f w k5 else f 7 (2 * k5 + 1)) = c0_zoneCurrent_a5 f w k5 := by simp only [if_pos h1]
        rw [e0] at hJ
        exact hJ
      · refine fl_Tq.jf rfl (fl_bo rfl) (c2_lt_f h1) rfl ?_
        refine fl_Tq.stp (pc' := 26) (lv' := [some (.inr (.inr (.inl (3, 3)))), some (.inl w), some (.inl (c0_zoneCurrent_a5 f w k5)), some (.inl (Int32.ofNat k5))]) (st' := [.inr (.inr (.inl (3, 3)))]) (m' := (f, l)) rfl rfl (fl_bo rfl) rfl ?_
        refine fl_Tq.stp (pc' := 29) (lv' := [some (.inr (.inr (.inl (3, 3)))), some (.inl w), some (.inl (c0_zoneCurrent_a5 f w k5)), some (.inl (Int32.ofNat k5))]) (st' := [.inr (.inr (.inl (7, 7)))]) (m' := (f, l)) rfl rfl (fl_bo rfl) rfl ?_
        refine fl_Tq.stp (pc' := 30) (lv' := [some (.inr (.inr (.inl (3, 3)))), some (.inl w), some (.inl (c0_zoneCurrent_a5 f w k5)), some (.inl (Int32.ofNat k5))]) (st' := [.inl (Int32.ofNat k5), .inr (.inr (.inl (7, 7)))]) (m' := (f, l)) rfl rfl (fl_bo rfl) rfl ?_
        refine fl_Tq.cI (c := (2 : Int32)) rfl (by decide +kernel) (fl_bo rfl) ?_
        refine fl_Tq.stp (pc' := 32) (lv' := [some (.inr (.inr (.inl (3, 3)))), some (.inl w), some (.inl (c0_zoneCurrent_a5 f w k5)), some (.inl (Int32.ofNat k5))]) (st' := [.inl ((Int32.ofNat k5) * (2 : Int32)), .inr (.inr (.inl (7, 7)))]) (m' := (f, l)) rfl rfl (fl_bo rfl) rfl ?_
        refine fl_Tq.cI (c := (1 : Int32)) rfl (by decide +kernel) (fl_bo rfl) ?_
        refine fl_Tq.stp (pc' := 34) (lv' := [some (.inr (.inr (.inl (3, 3)))), some (.inl w), some (.inl (c0_zoneCurrent_a5 f w k5)), some (.inl (Int32.ofNat k5))]) (st' := [.inl (((Int32.ofNat k5) * (2 : Int32)) + (1 : Int32)), .inr (.inr (.inl (7, 7)))]) (m' := (f, l)) rfl rfl (fl_bo rfl) rfl ?_
        refine fl_Tq.ldV (p := 7) (τ := 7) (n := 12) (z := (0, 0, 0)) (k := 2 * k5 + 1) (v := f 7 (2 * k5 + 1)) rfl (fl_bo rfl) rfl (t2_i21 (by omega)) (by omega) rfl ?_
        refine fl_Tq.stp (pc' := 36) (lv' := [some (.inr (.inr (.inl (3, 3)))), some (.inl w), some (.inl (f 7 (2 * k5 + 1))), some (.inl (Int32.ofNat k5))]) (st' := []) (m' := (f, l)) rfl rfl (fl_bo rfl) rfl ?_
        have e0 : (if w.toInt < (f 7 (2 * k5)).toInt then c0_zoneCurrent_a5 f w k5 else f 7 (2 * k5 + 1)) = f 7 (2 * k5 + 1) := by simp only [if_neg h1]
        rw [e0] at hJ
        exact hJ
    refine hj28 ?_
    show fl_Tq _ 79 36 [some (.inr (.inr (.inl (3, 3)))), some (.inl w), some (.inl (if w.toInt < (f 7 (2 * k5)).toInt then c0_zoneCurrent_a5 f w k5 else f 7 (2 * k5 + 1))), some (.inl (Int32.ofNat k5))] [] (f, l) _
    refine fl_Tq.stp (pc' := 39) (lv' := [some (.inr (.inr (.inl (3, 3)))), some (.inl w), some (.inl (if w.toInt < (f 7 (2 * k5)).toInt then c0_zoneCurrent_a5 f w k5 else f 7 (2 * k5 + 1))), some (.inl ((Int32.ofNat k5) + (1 : Int32)))]) (st' := []) (m' := (f, l)) rfl rfl (fl_bo rfl) rfl ?_
    refine fl_Tq.stp (pc' := 5) (lv' := [some (.inr (.inr (.inl (3, 3)))), some (.inl w), some (.inl (if w.toInt < (f 7 (2 * k5)).toInt then c0_zoneCurrent_a5 f w k5 else f 7 (2 * k5 + 1))), some (.inl ((Int32.ofNat k5) + (1 : Int32)))]) (st' := []) (m' := (f, l)) rfl rfl (fl_bo rfl) rfl ?_
    have ea : c0_zoneCurrent_a5 f w (k5 + 1) = if w.toInt < (f 7 (2 * k5)).toInt then c0_zoneCurrent_a5 f w k5 else f 7 (2 * k5 + 1) := by
      show (if w.toInt < (f 7 (2 * k5)).toInt then c0_zoneCurrent_a5 f w k5 else f 7 (2 * k5 + 1)) = _
      rfl
    rw [ea, ← t2_k1] at hS
    exact hS
  refine t2_for (S := fun k5 => fl_Tq (pw_P L xs) 79 5 [some (.inr (.inr (.inl (3, 3)))), some (.inl w), some (.inl (c0_zoneCurrent_a5 f w k5)), some (.inl (Int32.ofNat k5))] [] (f, l) Q) hs5 ?_
  show fl_Tq (pw_P L xs) 79 5 [some (.inr (.inr (.inl (3, 3)))), some (.inl w), some (.inl (c0_zoneCurrent_a5 f w ((f 3 6).toInt.toNat))), some (.inl (Int32.ofNat ((f 3 6).toInt.toNat)))] [] (f, l) _
  refine fl_Tq.stp (pc' := 6) (lv' := [some (.inr (.inr (.inl (3, 3)))), some (.inl w), some (.inl (c0_zoneCurrent_a5 f w ((f 3 6).toInt.toNat))), some (.inl (Int32.ofNat ((f 3 6).toInt.toNat)))]) (st' := [.inl (Int32.ofNat ((f 3 6).toInt.toNat))]) (m' := (f, l)) rfl rfl (fl_bo rfl) rfl ?_
  refine fl_Tq.stp (pc' := 7) (lv' := [some (.inr (.inr (.inl (3, 3)))), some (.inl w), some (.inl (c0_zoneCurrent_a5 f w ((f 3 6).toInt.toNat))), some (.inl (Int32.ofNat ((f 3 6).toInt.toNat)))]) (st' := [.inr (.inr (.inl (3, 3))), .inl (Int32.ofNat ((f 3 6).toInt.toNat))]) (m' := (f, l)) rfl rfl (fl_bo rfl) rfl ?_
  refine fl_Tq.gfV (k := 6) (v := f 3 6) rfl (fl_bo rfl) rfl rfl ?_
  refine fl_Tq.jt rfl (fl_bo rfl) (c2_ge_t (t2_ln (t2_nn hz.1))) rfl ?_
  refine fl_Tq.stp (pc' := 43) (lv' := [some (.inr (.inr (.inl (3, 3)))), some (.inl w), some (.inl (c0_zoneCurrent_a5 f w ((f 3 6).toInt.toNat))), some (.inl (Int32.ofNat ((f 3 6).toInt.toNat)))]) (st' := [.inl (c0_zoneCurrent_a5 f w ((f 3 6).toInt.toNat))]) (m' := (f, l)) rfl rfl (fl_bo rfl) rfl ?_
  exact fl_Tq.ret rfl rfl rfl k
noncomputable def c0_ownLimit_v (f : t2_F) (i : Nat) (w : Int32) : Int32 := if w.toInt = 0 then (if (f (18 + 4 * i) 6).toInt < (f 4 3).toInt then (0 : Int32) else t2_max_v (0 : Int32) (t2_min_v (c0_zoneCurrent_v f (f (18 + 4 * i) 6)) (t2_min_v (((f 4 0) - ((f (18 + 4 * i) 4) + (f (18 + 4 * i) 7))) * (f 4 5)) (((f 4 2) - (f (18 + 4 * i) 6)) * (500 : Int32))))) else t2_max_v (0 : Int32) (t2_min_v (c0_zoneCurrent_v f (f (18 + 4 * i) 6)) (t2_min_v ((((f (18 + 4 * i) 4) + (f (18 + 4 * i) 7)) - (f 4 1)) * (f 4 5)) (((f 4 2) - (f (18 + 4 * i) 6)) * (500 : Int32))))
theorem c0_ownLimit_q {L : Nat} {xs : Nat → Int32} {f : t2_F} {l : t2_L} {Q : Option fl_V → fl_M → Prop} {i : Nat} {w : Int32} (hi : i < 16) (hz : 0 ≤ (f 3 6).toInt ∧ (f 3 6).toInt ≤ 6) (k : Q (some (.inl (c0_ownLimit_v f i w))) (f, l)) : fl_Tq (pw_P L xs) 9 0 (fl_args (am_mxl (pw_P L xs) 9) [.inr (.inr (.inl (18, 18 + 4 * i))), .inl w, .inr (.inr (.inl (3, 3)))]) [] (f, l) Q := by
  refine fl_Tq.stp (pc' := 1) (lv' := [some (.inr (.inr (.inl (18, 18 + 4 * i)))), some (.inl w), some (.inr (.inr (.inl (3, 3)))), none, none, none, none, none]) (st' := [.inr (.inr (.inl (3, 3)))]) (m' := (f, l)) rfl rfl (fl_bo rfl) rfl ?_
  refine fl_Tq.stp (pc' := 4) (lv' := [some (.inr (.inr (.inl (18, 18 + 4 * i)))), some (.inl w), some (.inr (.inr (.inl (3, 3)))), none, none, none, none, none]) (st' := [.inr (.inr (.inl (4, 4)))]) (m' := (f, l)) rfl rfl (fl_bo rfl) rfl ?_
  refine fl_Tq.stp (pc' := 5) (lv' := [some (.inr (.inr (.inl (18, 18 + 4 * i)))), some (.inl w), some (.inr (.inr (.inl (3, 3)))), some (.inr (.inr (.inl (4, 4)))), none, none, none, none]) (st' := []) (m' := (f, l)) rfl rfl (fl_bo rfl) rfl ?_
  refine fl_Tq.stp (pc' := 6) (lv' := [some (.inr (.inr (.inl (18, 18 + 4 * i)))), some (.inl w), some (.inr (.inr (.inl (3, 3)))), some (.inr (.inr (.inl (4, 4)))), none, none, none, none]) (st' := [.inl w]) (m' := (f, l)) rfl rfl (fl_bo rfl) rfl ?_
  by_cases h1 : w.toInt = 0
  · refine fl_Tq.zf rfl (fl_bo rfl) (c1_ne_f h1) rfl ?_
    refine fl_Tq.stp (pc' := 10) (lv' := [some (.inr (.inr (.inl (18, 18 + 4 * i)))), some (.inl w), some (.inr (.inr (.inl (3, 3)))), some (.inr (.inr (.inl (4, 4)))), none, none, none, none]) (st' := [.inr (.inr (.inl (18, 18 + 4 * i)))]) (m' := (f, l)) rfl rfl (fl_bo rfl) rfl ?_
    refine fl_Tq.gfV (k := 6) (v := f (18 + 4 * i) 6) rfl (fl_oks_ok ⟨t2_kc0 hi, True.intro⟩) rfl rfl ?_
    refine fl_Tq.stp (pc' := 14) (lv' := [some (.inr (.inr (.inl (18, 18 + 4 * i)))), some (.inl w), some (.inr (.inr (.inl (3, 3)))), some (.inr (.inr (.inl (4, 4)))), none, none, none, none]) (st' := [.inr (.inr (.inl (4, 4))), .inl (f (18 + 4 * i) 6)]) (m' := (f, l)) rfl rfl (fl_bo rfl) rfl ?_
    refine fl_Tq.cI (c := (3 : Int32)) rfl (by decide +kernel) (fl_bo rfl) ?_
    refine fl_Tq.ldV (p := 4) (τ := 4) (n := 30) (z := (0, 0, 0)) (k := 3) (v := f 4 3) rfl (fl_bo rfl) rfl (by decide +kernel) (by decide) rfl ?_
    by_cases h2 : (f (18 + 4 * i) 6).toInt < (f 4 3).toInt
    · refine fl_Tq.jf rfl (fl_bo rfl) (c2_ge_f h2) rfl ?_
      refine fl_Tq.cI (c := (0 : Int32)) rfl (by decide +kernel) (fl_bo rfl) ?_
      refine fl_Tq.ret rfl rfl rfl ?_
      unfold c0_ownLimit_v at k
      simp only [if_pos h1, if_pos h2] at k
      exact k
    · refine fl_Tq.jt rfl (fl_bo rfl) (c2_ge_t h2) rfl ?_
      refine fl_Tq.stp (pc' := 22) (lv' := [some (.inr (.inr (.inl (18, 18 + 4 * i)))), some (.inl w), some (.inr (.inr (.inl (3, 3)))), some (.inr (.inr (.inl (4, 4)))), none, none, none, none]) (st' := [.inr (.inr (.inl (18, 18 + 4 * i)))]) (m' := (f, l)) rfl rfl (fl_bo rfl) rfl ?_
      refine fl_Tq.gfV (k := 4) (v := f (18 + 4 * i) 4) rfl (fl_oks_ok ⟨t2_kc0 hi, True.intro⟩) rfl rfl ?_
      refine fl_Tq.stp (pc' := 26) (lv' := [some (.inr (.inr (.inl (18, 18 + 4 * i)))), some (.inl w), some (.inr (.inr (.inl (3, 3)))), some (.inr (.inr (.inl (4, 4)))), none, none, none, none]) (st' := [.inr (.inr (.inl (18, 18 + 4 * i))), .inl (f (18 + 4 * i) 4)]) (m' := (f, l)) rfl rfl (fl_bo rfl) rfl ?_
      refine fl_Tq.gfV (k := 7) (v := f (18 + 4 * i) 7) rfl (fl_oks_ok ⟨t2_kc0 hi, True.intro, True.intro⟩) rfl rfl ?_
      refine fl_Tq.stp (pc' := 30) (lv' := [some (.inr (.inr (.inl (18, 18 + 4 * i)))), some (.inl w), some (.inr (.inr (.inl (3, 3)))), some (.inr (.inr (.inl (4, 4)))), none, none, none, none]) (st' := [.inl ((f (18 + 4 * i) 4) + (f (18 + 4 * i) 7))]) (m' := (f, l)) rfl rfl (fl_bo rfl) rfl ?_
      refine fl_Tq.stp (pc' := 32) (lv' := [some (.inr (.inr (.inl (18, 18 + 4 * i)))), some (.inl w), some (.inr (.inr (.inl (3, 3)))), some (.inr (.inr (.inl (4, 4)))), some (.inl ((f (18 + 4 * i) 4) + (f (18 + 4 * i) 7))), none, none, none]) (st' := []) (m' := (f, l)) rfl rfl (fl_bo rfl) rfl ?_
      refine fl_Tq.stp (pc' := 33) (lv' := [some (.inr (.inr (.inl (18, 18 + 4 * i)))), some (.inl w), some (.inr (.inr (.inl (3, 3)))), some (.inr (.inr (.inl (4, 4)))), some (.inl ((f (18 + 4 * i) 4) + (f (18 + 4 * i) 7))), none, none, none]) (st' := [.inl w]) (m' := (f, l)) rfl rfl (fl_bo rfl) rfl ?_
      refine fl_Tq.zf rfl (fl_bo rfl) (c1_ne_f h1) rfl ?_
      refine fl_Tq.stp (pc' := 37) (lv' := [some (.inr (.inr (.inl (18, 18 + 4 * i)))), some (.inl w), some (.inr (.inr (.inl (3, 3)))), some (.inr (.inr (.inl (4, 4)))), some (.inl ((f (18 + 4 * i) 4) + (f (18 + 4 * i) 7))), none, none, none]) (st' := [.inr (.inr (.inl (4, 4)))]) (m' := (f, l)) rfl rfl (fl_bo rfl) rfl ?_
      refine fl_Tq.cI (c := (0 : Int32)) rfl (by decide +kernel) (fl_bo rfl) ?_
      refine fl_Tq.ldV (p := 4) (τ := 4) (n := 30) (z := (0, 0, 0)) (k := 0) (v := f 4 0) rfl (fl_bo rfl) rfl (by decide +kernel) (by decide) rfl ?_
      refine fl_Tq.stp (pc' := 41) (lv' := [some (.inr (.inr (.inl (18, 18 + 4 * i)))), some (.inl w), some (.inr (.inr (.inl (3, 3)))), some (.inr (.inr (.inl (4, 4)))), some (.inl ((f (18 + 4 * i) 4) + (f (18 + 4 * i) 7))), none, none, none]) (st' := [.inl ((f (18 + 4 * i) 4) + (f (18 + 4 * i) 7)), .inl (f 4 0)]) (m' := (f, l)) rfl rfl (fl_bo rfl) rfl ?_
      refine fl_Tq.stp (pc' := 42) (lv' := [some (.inr (.inr (.inl (18, 18 + 4 * i)))), some (.inl w), some (.inr (.inr (.inl (3, 3)))), some (.inr (.inr (.inl (4, 4)))), some (.inl ((f (18 + 4 * i) 4) + (f (18 + 4 * i) 7))), none, none, none]) (st' := [.inl ((f 4 0) - ((f (18 + 4 * i) 4) + (f (18 + 4 * i) 7)))]) (m' := (f, l)) rfl rfl (fl_bo rfl) rfl ?_
      refine fl_Tq.stp (pc' := 51) (lv' := [some (.inr (.inr (.inl (18, 18 + 4 * i)))), some (.inl w), some (.inr (.inr (.inl (3, 3)))), some (.inr (.inr (.inl (4, 4)))), some (.inl ((f (18 + 4 * i) 4) + (f (18 + 4 * i) 7))), none, none, none]) (st' := [.inl ((f 4 0) - ((f (18 + 4 * i) 4) + (f (18 + 4 * i) 7)))]) (m' := (f, l)) rfl rfl (fl_bo rfl) rfl ?_
      refine fl_Tq.stp (pc' := 52) (lv' := [some (.inr (.inr (.inl (18, 18 + 4 * i)))), some (.inl w), some (.inr (.inr (.inl (3, 3)))), some (.inr (.inr (.inl (4, 4)))), some (.inl ((f (18 + 4 * i) 4) + (f (18 + 4 * i) 7))), none, none, none]) (st' := [.inr (.inr (.inl (4, 4))), .inl ((f 4 0) - ((f (18 + 4 * i) 4) + (f (18 + 4 * i) 7)))]) (m' := (f, l)) rfl rfl (fl_bo rfl) rfl ?_
      refine fl_Tq.cI (c := (5 : Int32)) rfl (by decide +kernel) (fl_bo rfl) ?_
      refine fl_Tq.ldV (p := 4) (τ := 4) (n := 30) (z := (0, 0, 0)) (k := 5) (v := f 4 5) rfl (fl_bo rfl) rfl (by decide +kernel) (by decide) rfl ?_
      refine fl_Tq.stp (pc' := 55) (lv' := [some (.inr (.inr (.inl (18, 18 + 4 * i)))), some (.inl w), some (.inr (.inr (.inl (3, 3)))), some (.inr (.inr (.inl (4, 4)))), some (.inl ((f (18 + 4 * i) 4) + (f (18 + 4 * i) 7))), none, none, none]) (st' := [.inl (((f 4 0) - ((f (18 + 4 * i) 4) + (f (18 + 4 * i) 7))) * (f 4 5))]) (m' := (f, l)) rfl rfl (fl_bo rfl) rfl ?_
      refine fl_Tq.stp (pc' := 57) (lv' := [some (.inr (.inr (.inl (18, 18 + 4 * i)))), some (.inl w), some (.inr (.inr (.inl (3, 3)))), some (.inr (.inr (.inl (4, 4)))), some (.inl ((f (18 + 4 * i) 4) + (f (18 + 4 * i) 7))), some (.inl (((f 4 0) - ((f (18 + 4 * i) 4) + (f (18 + 4 * i) 7))) * (f 4 5))), none, none]) (st' := []) (m' := (f, l)) rfl rfl (fl_bo rfl) rfl ?_
      refine fl_Tq.stp (pc' := 58) (lv' := [some (.inr (.inr (.inl (18, 18 + 4 * i)))), some (.inl w), some (.inr (.inr (.inl (3, 3)))), some (.inr (.inr (.inl (4, 4)))), some (.inl ((f (18 + 4 * i) 4) + (f (18 + 4 * i) 7))), some (.inl (((f 4 0) - ((f (18 + 4 * i) 4) + (f (18 + 4 * i) 7))) * (f 4 5))), none, none]) (st' := [.inr (.inr (.inl (4, 4)))]) (m' := (f, l)) rfl rfl (fl_bo rfl) rfl ?_
      refine fl_Tq.cI (c := (2 : Int32)) rfl (by decide +kernel) (fl_bo rfl) ?_
      refine fl_Tq.ldV (p := 4) (τ := 4) (n := 30) (z := (0, 0, 0)) (k := 2) (v := f 4 2) rfl (fl_bo rfl) rfl (by decide +kernel) (by decide) rfl ?_
      refine fl_Tq.stp (pc' := 61) (lv' := [some (.inr (.inr (.inl (18, 18 + 4 * i)))), some (.inl w), some (.inr (.inr (.inl (3, 3)))), some (.inr (.inr (.inl (4, 4)))), some (.inl ((f (18 + 4 * i) 4) + (f (18 + 4 * i) 7))), some (.inl (((f 4 0) - ((f (18 + 4 * i) 4) + (f (18 + 4 * i) 7))) * (f 4 5))), none, none]) (st' := [.inr (.inr (.inl (18, 18 + 4 * i))), .inl (f 4 2)]) (m' := (f, l)) rfl rfl (fl_bo rfl) rfl ?_
      refine fl_Tq.gfV (k := 6) (v := f (18 + 4 * i) 6) rfl (fl_oks_ok ⟨t2_kc0 hi, True.intro, True.intro⟩) rfl rfl ?_
      refine fl_Tq.stp (pc' := 65) (lv' := [some (.inr (.inr (.inl (18, 18 + 4 * i)))), some (.inl w), some (.inr (.inr (.inl (3, 3)))), some (.inr (.inr (.inl (4, 4)))), some (.inl ((f (18 + 4 * i) 4) + (f (18 + 4 * i) 7))), some (.inl (((f 4 0) - ((f (18 + 4 * i) 4) + (f (18 + 4 * i) 7))) * (f 4 5))), none, none]) (st' := [.inl ((f 4 2) - (f (18 + 4 * i) 6))]) (m' := (f, l)) rfl rfl (fl_bo rfl) rfl ?_
      refine fl_Tq.cS (c := (500 : Int32)) rfl (by decide +kernel) (fl_bo rfl) ?_
      refine fl_Tq.stp (pc' := 69) (lv' := [some (.inr (.inr (.inl (18, 18 + 4 * i)))), some (.inl w), some (.inr (.inr (.inl (3, 3)))), some (.inr (.inr (.inl (4, 4)))), some (.inl ((f (18 + 4 * i) 4) + (f (18 + 4 * i) 7))), some (.inl (((f 4 0) - ((f (18 + 4 * i) 4) + (f (18 + 4 * i) 7))) * (f 4 5))), none, none]) (st' := [.inl (((f 4 2) - (f (18 + 4 * i) 6)) * (500 : Int32))]) (m' := (f, l)) rfl rfl (fl_bo rfl) rfl ?_
      refine fl_Tq.stp (pc' := 71) (lv' := [some (.inr (.inr (.inl (18, 18 + 4 * i)))), some (.inl w), some (.inr (.inr (.inl (3, 3)))), some (.inr (.inr (.inl (4, 4)))), some (.inl ((f (18 + 4 * i) 4) + (f (18 + 4 * i) 7))), some (.inl (((f 4 0) - ((f (18 + 4 * i) 4) + (f (18 + 4 * i) 7))) * (f 4 5))), some (.inl (((f 4 2) - (f (18 + 4 * i) 6)) * (500 : Int32))), none]) (st' := []) (m' := (f, l)) rfl rfl (fl_bo rfl) rfl ?_
      refine fl_Tq.stp (pc' := 72) (lv' := [some (.inr (.inr (.inl (18, 18 + 4 * i)))), some (.inl w), some (.inr (.inr (.inl (3, 3)))), some (.inr (.inr (.inl (4, 4)))), some (.inl ((f (18 + 4 * i) 4) + (f (18 + 4 * i) 7))), some (.inl (((f 4 0) - ((f (18 + 4 * i) 4) + (f (18 + 4 * i) 7))) * (f 4 5))), some (.inl (((f 4 2) - (f (18 + 4 * i) 6)) * (500 : Int32))), none]) (st' := [.inr (.inr (.inl (3, 3)))]) (m' := (f, l)) rfl rfl (fl_bo rfl) rfl ?_
      refine fl_Tq.stp (pc' := 73) (lv' := [some (.inr (.inr (.inl (18, 18 + 4 * i)))), some (.inl w), some (.inr (.inr (.inl (3, 3)))), some (.inr (.inr (.inl (4, 4)))), some (.inl ((f (18 + 4 * i) 4) + (f (18 + 4 * i) 7))), some (.inl (((f 4 0) - ((f (18 + 4 * i) 4) + (f (18 + 4 * i) 7))) * (f 4 5))), some (.inl (((f 4 2) - (f (18 + 4 * i) 6)) * (500 : Int32))), none]) (st' := [.inr (.inr (.inl (18, 18 + 4 * i))), .inr (.inr (.inl (3, 3)))]) (m' := (f, l)) rfl rfl (fl_bo rfl) rfl ?_
      refine fl_Tq.gfV (k := 6) (v := f (18 + 4 * i) 6) rfl (fl_oks_ok ⟨t2_kc0 hi, fl_okp (by decide +kernel) (by decide), True.intro⟩) rfl rfl ?_
      refine fl_Tq.cal rfl rfl (fl_bo rfl) rfl ?_
      refine c0_zoneCurrent_q hz ?_
      show fl_Tq _ 9 79 [some (.inr (.inr (.inl (18, 18 + 4 * i)))), some (.inl w), some (.inr (.inr (.inl (3, 3)))), some (.inr (.inr (.inl (4, 4)))), some (.inl ((f (18 + 4 * i) 4) + (f (18 + 4 * i) 7))), some (.inl (((f 4 0) - ((f (18 + 4 * i) 4) + (f (18 + 4 * i) 7))) * (f 4 5))), some (.inl (((f 4 2) - (f (18 + 4 * i) 6)) * (500 : Int32))), none] [.inl (c0_zoneCurrent_v f (f (18 + 4 * i) 6))] (f, l) _
      refine fl_Tq.stp (pc' := 81) (lv' := [some (.inr (.inr (.inl (18, 18 + 4 * i)))), some (.inl w), some (.inr (.inr (.inl (3, 3)))), some (.inr (.inr (.inl (4, 4)))), some (.inl ((f (18 + 4 * i) 4) + (f (18 + 4 * i) 7))), some (.inl (((f 4 0) - ((f (18 + 4 * i) 4) + (f (18 + 4 * i) 7))) * (f 4 5))), some (.inl (((f 4 2) - (f (18 + 4 * i) 6)) * (500 : Int32))), some (.inl (c0_zoneCurrent_v f (f (18 + 4 * i) 6)))]) (st' := []) (m' := (f, l)) rfl rfl (fl_bo rfl) rfl ?_
      refine fl_Tq.cI (c := (0 : Int32)) rfl (by decide +kernel) (fl_bo rfl) ?_
      refine fl_Tq.stp (pc' := 84) (lv' := [some (.inr (.inr (.inl (18, 18 + 4 * i)))), some (.inl w), some (.inr (.inr (.inl (3, 3)))), some (.inr (.inr (.inl (4, 4)))), some (.inl ((f (18 + 4 * i) 4) + (f (18 + 4 * i) 7))), some (.inl (((f 4 0) - ((f (18 + 4 * i) 4) + (f (18 + 4 * i) 7))) * (f 4 5))), some (.inl (((f 4 2) - (f (18 + 4 * i) 6)) * (500 : Int32))), some (.inl (c0_zoneCurrent_v f (f (18 + 4 * i) 6)))]) (st' := [.inl (c0_zoneCurrent_v f (f (18 + 4 * i) 6)), .inl (0 : Int32)]) (m' := (f, l)) rfl rfl (fl_bo rfl) rfl ?_
      refine fl_Tq.stp (pc' := 86) (lv' := [some (.inr (.inr (.inl (18, 18 + 4 * i)))), some (.inl w), some (.inr (.inr (.inl (3, 3)))), some (.inr (.inr (.inl (4, 4)))), some (.inl ((f (18 + 4 * i) 4) + (f (18 + 4 * i) 7))), some (.inl (((f 4 0) - ((f (18 + 4 * i) 4) + (f (18 + 4 * i) 7))) * (f 4 5))), some (.inl (((f 4 2) - (f (18 + 4 * i) 6)) * (500 : Int32))), some (.inl (c0_zoneCurrent_v f (f (18 + 4 * i) 6)))]) (st' := [.inl (((f 4 0) - ((f (18 + 4 * i) 4) + (f (18 + 4 * i) 7))) * (f 4 5)), .inl (c0_zoneCurrent_v f (f (18 + 4 * i) 6)), .inl (0 : Int32)]) (m' := (f, l)) rfl rfl (fl_bo rfl) rfl ?_
      refine fl_Tq.stp (pc' := 88) (lv' := [some (.inr (.inr (.inl (18, 18 + 4 * i)))), some (.inl w), some (.inr (.inr (.inl (3, 3)))), some (.inr (.inr (.inl (4, 4)))), some (.inl ((f (18 + 4 * i) 4) + (f (18 + 4 * i) 7))), some (.inl (((f 4 0) - ((f (18 + 4 * i) 4) + (f (18 + 4 * i) 7))) * (f 4 5))), some (.inl (((f 4 2) - (f (18 + 4 * i) 6)) * (500 : Int32))), some (.inl (c0_zoneCurrent_v f (f (18 + 4 * i) 6)))]) (st' := [.inl (((f 4 2) - (f (18 + 4 * i) 6)) * (500 : Int32)), .inl (((f 4 0) - ((f (18 + 4 * i) 4) + (f (18 + 4 * i) 7))) * (f 4 5)), .inl (c0_zoneCurrent_v f (f (18 + 4 * i) 6)), .inl (0 : Int32)]) (m' := (f, l)) rfl rfl (fl_bo rfl) rfl ?_
      refine fl_Tq.cal rfl rfl (fl_bo rfl) rfl ?_
      refine t2_min_q  ?_
      show fl_Tq _ 9 91 [some (.inr (.inr (.inl (18, 18 + 4 * i)))), some (.inl w), some (.inr (.inr (.inl (3, 3)))), some (.inr (.inr (.inl (4, 4)))), some (.inl ((f (18 + 4 * i) 4) + (f (18 + 4 * i) 7))), some (.inl (((f 4 0) - ((f (18 + 4 * i) 4) + (f (18 + 4 * i) 7))) * (f 4 5))), some (.inl (((f 4 2) - (f (18 + 4 * i) 6)) * (500 : Int32))), some (.inl (c0_zoneCurrent_v f (f (18 + 4 * i) 6)))] [.inl (t2_min_v (((f 4 0) - ((f (18 + 4 * i) 4) + (f (18 + 4 * i) 7))) * (f 4 5)) (((f 4 2) - (f (18 + 4 * i) 6)) * (500 : Int32))), .inl (c0_zoneCurrent_v f (f (18 + 4 * i) 6)), .inl (0 : Int32)] (f, l) _
      refine fl_Tq.cal rfl rfl (fl_bo rfl) rfl ?_
      refine t2_min_q  ?_
      show fl_Tq _ 9 94 [some (.inr (.inr (.inl (18, 18 + 4 * i)))), some (.inl w), some (.inr (.inr (.inl (3, 3)))), some (.inr (.inr (.inl (4, 4)))), some (.inl ((f (18 + 4 * i) 4) + (f (18 + 4 * i) 7))), some (.inl (((f 4 0) - ((f (18 + 4 * i) 4) + (f (18 + 4 * i) 7))) * (f 4 5))), some (.inl (((f 4 2) - (f (18 + 4 * i) 6)) * (500 : Int32))), some (.inl (c0_zoneCurrent_v f (f (18 + 4 * i) 6)))] [.inl (t2_min_v (c0_zoneCurrent_v f (f (18 + 4 * i) 6)) (t2_min_v (((f 4 0) - ((f (18 + 4 * i) 4) + (f (18 + 4 * i) 7))) * (f 4 5)) (((f 4 2) - (f (18 + 4 * i) 6)) * (500 : Int32)))), .inl (0 : Int32)] (f, l) _
      refine fl_Tq.cal rfl rfl (fl_bo rfl) rfl ?_
      refine t2_max_q  ?_
      show fl_Tq _ 9 97 [some (.inr (.inr (.inl (18, 18 + 4 * i)))), some (.inl w), some (.inr (.inr (.inl (3, 3)))), some (.inr (.inr (.inl (4, 4)))), some (.inl ((f (18 + 4 * i) 4) + (f (18 + 4 * i) 7))), some (.inl (((f 4 0) - ((f (18 + 4 * i) 4) + (f (18 + 4 * i) 7))) * (f 4 5))), some (.inl (((f 4 2) - (f (18 + 4 * i) 6)) * (500 : Int32))), some (.inl (c0_zoneCurrent_v f (f (18 + 4 * i) 6)))] [.inl (t2_max_v (0 : Int32) (t2_min_v (c0_zoneCurrent_v f (f (18 + 4 * i) 6)) (t2_min_v (((f 4 0) - ((f (18 + 4 * i) 4) + (f (18 + 4 * i) 7))) * (f 4 5)) (((f 4 2) - (f (18 + 4 * i) 6)) * (500 : Int32)))))] (f, l) _
      refine fl_Tq.ret rfl rfl rfl ?_
      unfold c0_ownLimit_v at k
      simp only [if_pos h1, if_neg h2] at k
      exact k
  · refine fl_Tq.zt rfl (fl_bo rfl) (c1_ne_t h1) rfl ?_
    refine fl_Tq.stp (pc' := 22) (lv' := [some (.inr (.inr (.inl (18, 18 + 4 * i)))), some (.inl w), some (.inr (.inr (.inl (3, 3)))), some (.inr (.inr (.inl (4, 4)))), none, none, none, none]) (st' := [.inr (.inr (.inl (18, 18 + 4 * i)))]) (m' := (f, l)) rfl rfl (fl_bo rfl) rfl ?_
    refine fl_Tq.gfV (k := 4) (v := f (18 + 4 * i) 4) rfl (fl_oks_ok ⟨t2_kc0 hi, True.intro⟩) rfl rfl ?_
    refine fl_Tq.stp (pc' := 26) (lv' := [some (.inr (.inr (.inl (18, 18 + 4 * i)))), some (.inl w), some (.inr (.inr (.inl (3, 3)))), some (.inr (.inr (.inl (4, 4)))), none, none, none, none]) (st' := [.inr (.inr (.inl (18, 18 + 4 * i))), .inl (f (18 + 4 * i) 4)]) (m' := (f, l)) rfl rfl (fl_bo rfl) rfl ?_
    refine fl_Tq.gfV (k := 7) (v := f (18 + 4 * i) 7) rfl (fl_oks_ok ⟨t2_kc0 hi, True.intro, True.intro⟩) rfl rfl ?_
    refine fl_Tq.stp (pc' := 30) (lv' := [some (.inr (.inr (.inl (18, 18 + 4 * i)))), some (.inl w), some (.inr (.inr (.inl (3, 3)))), some (.inr (.inr (.inl (4, 4)))), none, none, none, none]) (st' := [.inl ((f (18 + 4 * i) 4) + (f (18 + 4 * i) 7))]) (m' := (f, l)) rfl rfl (fl_bo rfl) rfl ?_
    refine fl_Tq.stp (pc' := 32) (lv' := [some (.inr (.inr (.inl (18, 18 + 4 * i)))), some (.inl w), some (.inr (.inr (.inl (3, 3)))), some (.inr (.inr (.inl (4, 4)))), some (.inl ((f (18 + 4 * i) 4) + (f (18 + 4 * i) 7))), none, none, none]) (st' := []) (m' := (f, l)) rfl rfl (fl_bo rfl) rfl ?_
    refine fl_Tq.stp (pc' := 33) (lv' := [some (.inr (.inr (.inl (18, 18 + 4 * i)))), some (.inl w), some (.inr (.inr (.inl (3, 3)))), some (.inr (.inr (.inl (4, 4)))), some (.inl ((f (18 + 4 * i) 4) + (f (18 + 4 * i) 7))), none, none, none]) (st' := [.inl w]) (m' := (f, l)) rfl rfl (fl_bo rfl) rfl ?_
    refine fl_Tq.zt rfl (fl_bo rfl) (c1_ne_t h1) rfl ?_
    refine fl_Tq.stp (pc' := 47) (lv' := [some (.inr (.inr (.inl (18, 18 + 4 * i)))), some (.inl w), some (.inr (.inr (.inl (3, 3)))), some (.inr (.inr (.inl (4, 4)))), some (.inl ((f (18 + 4 * i) 4) + (f (18 + 4 * i) 7))), none, none, none]) (st' := [.inl ((f (18 + 4 * i) 4) + (f (18 + 4 * i) 7))]) (m' := (f, l)) rfl rfl (fl_bo rfl) rfl ?_
    refine fl_Tq.stp (pc' := 48) (lv' := [some (.inr (.inr (.inl (18, 18 + 4 * i)))), some (.inl w), some (.inr (.inr (.inl (3, 3)))), some (.inr (.inr (.inl (4, 4)))), some (.inl ((f (18 + 4 * i) 4) + (f (18 + 4 * i) 7))), none, none, none]) (st' := [.inr (.inr (.inl (4, 4))), .inl ((f (18 + 4 * i) 4) + (f (18 + 4 * i) 7))]) (m' := (f, l)) rfl rfl (fl_bo rfl) rfl ?_
    refine fl_Tq.cI (c := (1 : Int32)) rfl (by decide +kernel) (fl_bo rfl) ?_
    refine fl_Tq.ldV (p := 4) (τ := 4) (n := 30) (z := (0, 0, 0)) (k := 1) (v := f 4 1) rfl (fl_bo rfl) rfl (by decide +kernel) (by decide) rfl ?_
    refine fl_Tq.stp (pc' := 51) (lv' := [some (.inr (.inr (.inl (18, 18 + 4 * i)))), some (.inl w), some (.inr (.inr (.inl (3, 3)))), some (.inr (.inr (.inl (4, 4)))), some (.inl ((f (18 + 4 * i) 4) + (f (18 + 4 * i) 7))), none, none, none]) (st' := [.inl (((f (18 + 4 * i) 4) + (f (18 + 4 * i) 7)) - (f 4 1))]) (m' := (f, l)) rfl rfl (fl_bo rfl) rfl ?_
    refine fl_Tq.stp (pc' := 52) (lv' := [some (.inr (.inr (.inl (18, 18 + 4 * i)))), some (.inl w), some (.inr (.inr (.inl (3, 3)))), some (.inr (.inr (.inl (4, 4)))), some (.inl ((f (18 + 4 * i) 4) + (f (18 + 4 * i) 7))), none, none, none]) (st' := [.inr (.inr (.inl (4, 4))), .inl (((f (18 + 4 * i) 4) + (f (18 + 4 * i) 7)) - (f 4 1))]) (m' := (f, l)) rfl rfl (fl_bo rfl) rfl ?_
    refine fl_Tq.cI (c := (5 : Int32)) rfl (by decide +kernel) (fl_bo rfl) ?_
    refine fl_Tq.ldV (p := 4) (τ := 4) (n := 30) (z := (0, 0, 0)) (k := 5) (v := f 4 5) rfl (fl_bo rfl) rfl (by decide +kernel) (by decide) rfl ?_
    refine fl_Tq.stp (pc' := 55) (lv' := [some (.inr (.inr (.inl (18, 18 + 4 * i)))), some (.inl w), some (.inr (.inr (.inl (3, 3)))), some (.inr (.inr (.inl (4, 4)))), some (.inl ((f (18 + 4 * i) 4) + (f (18 + 4 * i) 7))), none, none, none]) (st' := [.inl ((((f (18 + 4 * i) 4) + (f (18 + 4 * i) 7)) - (f 4 1)) * (f 4 5))]) (m' := (f, l)) rfl rfl (fl_bo rfl) rfl ?_
    refine fl_Tq.stp (pc' := 57) (lv' := [some (.inr (.inr (.inl (18, 18 + 4 * i)))), some (.inl w), some (.inr (.inr (.inl (3, 3)))), some (.inr (.inr (.inl (4, 4)))), some (.inl ((f (18 + 4 * i) 4) + (f (18 + 4 * i) 7))), some (.inl ((((f (18 + 4 * i) 4) + (f (18 + 4 * i) 7)) - (f 4 1)) * (f 4 5))), none, none]) (st' := []) (m' := (f, l)) rfl rfl (fl_bo rfl) rfl ?_
    refine fl_Tq.stp (pc' := 58) (lv' := [some (.inr (.inr (.inl (18, 18 + 4 * i)))), some (.inl w), some (.inr (.inr (.inl (3, 3)))), some (.inr (.inr (.inl (4, 4)))), some (.inl ((f (18 + 4 * i) 4) + (f (18 + 4 * i) 7))), some (.inl ((((f (18 + 4 * i) 4) + (f (18 + 4 * i) 7)) - (f 4 1)) * (f 4 5))), none, none]) (st' := [.inr (.inr (.inl (4, 4)))]) (m' := (f, l)) rfl rfl (fl_bo rfl) rfl ?_
    refine fl_Tq.cI (c := (2 : Int32)) rfl (by decide +kernel) (fl_bo rfl) ?_
    refine fl_Tq.ldV (p := 4) (τ := 4) (n := 30) (z := (0, 0, 0)) (k := 2) (v := f 4 2) rfl (fl_bo rfl) rfl (by decide +kernel) (by decide) rfl ?_
    refine fl_Tq.stp (pc' := 61) (lv' := [some (.inr (.inr (.inl (18, 18 + 4 * i)))), some (.inl w), some (.inr (.inr (.inl (3, 3)))), some (.inr (.inr (.inl (4, 4)))), some (.inl ((f (18 + 4 * i) 4) + (f (18 + 4 * i) 7))), some (.inl ((((f (18 + 4 * i) 4) + (f (18 + 4 * i) 7)) - (f 4 1)) * (f 4 5))), none, none]) (st' := [.inr (.inr (.inl (18, 18 + 4 * i))), .inl (f 4 2)]) (m' := (f, l)) rfl rfl (fl_bo rfl) rfl ?_
    refine fl_Tq.gfV (k := 6) (v := f (18 + 4 * i) 6) rfl (fl_oks_ok ⟨t2_kc0 hi, True.intro, True.intro⟩) rfl rfl ?_
    refine fl_Tq.stp (pc' := 65) (lv' := [some (.inr (.inr (.inl (18, 18 + 4 * i)))), some (.inl w), some (.inr (.inr (.inl (3, 3)))), some (.inr (.inr (.inl (4, 4)))), some (.inl ((f (18 + 4 * i) 4) + (f (18 + 4 * i) 7))), some (.inl ((((f (18 + 4 * i) 4) + (f (18 + 4 * i) 7)) - (f 4 1)) * (f 4 5))), none, none]) (st' := [.inl ((f 4 2) - (f (18 + 4 * i) 6))]) (m' := (f, l)) rfl rfl (fl_bo rfl) rfl ?_
    refine fl_Tq.cS (c := (500 : Int32)) rfl (by decide +kernel) (fl_bo rfl) ?_
    refine fl_Tq.stp (pc' := 69) (lv' := [some (.inr (.inr (.inl (18, 18 + 4 * i)))), some (.inl w), some (.inr (.inr (.inl (3, 3)))), some (.inr (.inr (.inl (4, 4)))), some (.inl ((f (18 + 4 * i) 4) + (f (18 + 4 * i) 7))), some (.inl ((((f (18 + 4 * i) 4) + (f (18 + 4 * i) 7)) - (f 4 1)) * (f 4 5))), none, none]) (st' := [.inl (((f 4 2) - (f (18 + 4 * i) 6)) * (500 : Int32))]) (m' := (f, l)) rfl rfl (fl_bo rfl) rfl ?_
    refine fl_Tq.stp (pc' := 71) (lv' := [some (.inr (.inr (.inl (18, 18 + 4 * i)))), some (.inl w), some (.inr (.inr (.inl (3, 3)))), some (.inr (.inr (.inl (4, 4)))), some (.inl ((f (18 + 4 * i) 4) + (f (18 + 4 * i) 7))), some (.inl ((((f (18 + 4 * i) 4) + (f (18 + 4 * i) 7)) - (f 4 1)) * (f 4 5))), some (.inl (((f 4 2) - (f (18 + 4 * i) 6)) * (500 : Int32))), none]) (st' := []) (m' := (f, l)) rfl rfl (fl_bo rfl) rfl ?_
    refine fl_Tq.stp (pc' := 72) (lv' := [some (.inr (.inr (.inl (18, 18 + 4 * i)))), some (.inl w), some (.inr (.inr (.inl (3, 3)))), some (.inr (.inr (.inl (4, 4)))), some (.inl ((f (18 + 4 * i) 4) + (f (18 + 4 * i) 7))), some (.inl ((((f (18 + 4 * i) 4) + (f (18 + 4 * i) 7)) - (f 4 1)) * (f 4 5))), some (.inl (((f 4 2) - (f (18 + 4 * i) 6)) * (500 : Int32))), none]) (st' := [.inr (.inr (.inl (3, 3)))]) (m' := (f, l)) rfl rfl (fl_bo rfl) rfl ?_
    refine fl_Tq.stp (pc' := 73) (lv' := [some (.inr (.inr (.inl (18, 18 + 4 * i)))), some (.inl w), some (.inr (.inr (.inl (3, 3)))), some (.inr (.inr (.inl (4, 4)))), some (.inl ((f (18 + 4 * i) 4) + (f (18 + 4 * i) 7))), some (.inl ((((f (18 + 4 * i) 4) + (f (18 + 4 * i) 7)) - (f 4 1)) * (f 4 5))), some (.inl (((f 4 2) - (f (18 + 4 * i) 6)) * (500 : Int32))), none]) (st' := [.inr (.inr (.inl (18, 18 + 4 * i))), .inr (.inr (.inl (3, 3)))]) (m' := (f, l)) rfl rfl (fl_bo rfl) rfl ?_
    refine fl_Tq.gfV (k := 6) (v := f (18 + 4 * i) 6) rfl (fl_oks_ok ⟨t2_kc0 hi, fl_okp (by decide +kernel) (by decide), True.intro⟩) rfl rfl ?_
    refine fl_Tq.cal rfl rfl (fl_bo rfl) rfl ?_
    refine c0_zoneCurrent_q hz ?_
    show fl_Tq _ 9 79 [some (.inr (.inr (.inl (18, 18 + 4 * i)))), some (.inl w), some (.inr (.inr (.inl (3, 3)))), some (.inr (.inr (.inl (4, 4)))), some (.inl ((f (18 + 4 * i) 4) + (f (18 + 4 * i) 7))), some (.inl ((((f (18 + 4 * i) 4) + (f (18 + 4 * i) 7)) - (f 4 1)) * (f 4 5))), some (.inl (((f 4 2) - (f (18 + 4 * i) 6)) * (500 : Int32))), none] [.inl (c0_zoneCurrent_v f (f (18 + 4 * i) 6))] (f, l) _
    refine fl_Tq.stp (pc' := 81) (lv' := [some (.inr (.inr (.inl (18, 18 + 4 * i)))), some (.inl w), some (.inr (.inr (.inl (3, 3)))), some (.inr (.inr (.inl (4, 4)))), some (.inl ((f (18 + 4 * i) 4) + (f (18 + 4 * i) 7))), some (.inl ((((f (18 + 4 * i) 4) + (f (18 + 4 * i) 7)) - (f 4 1)) * (f 4 5))), some (.inl (((f 4 2) - (f (18 + 4 * i) 6)) * (500 : Int32))), some (.inl (c0_zoneCurrent_v f (f (18 + 4 * i) 6)))]) (st' := []) (m' := (f, l)) rfl rfl (fl_bo rfl) rfl ?_
    refine fl_Tq.cI (c := (0 : Int32)) rfl (by decide +kernel) (fl_bo rfl) ?_
    refine fl_Tq.stp (pc' := 84) (lv' := [some (.inr (.inr (.inl (18, 18 + 4 * i)))), some (.inl w), some (.inr (.inr (.inl (3, 3)))), some (.inr (.inr (.inl (4, 4)))), some (.inl ((f (18 + 4 * i) 4) + (f (18 + 4 * i) 7))), some (.inl ((((f (18 + 4 * i) 4) + (f (18 + 4 * i) 7)) - (f 4 1)) * (f 4 5))), some (.inl (((f 4 2) - (f (18 + 4 * i) 6)) * (500 : Int32))), some (.inl (c0_zoneCurrent_v f (f (18 + 4 * i) 6)))]) (st' := [.inl (c0_zoneCurrent_v f (f (18 + 4 * i) 6)), .inl (0 : Int32)]) (m' := (f, l)) rfl rfl (fl_bo rfl) rfl ?_
    refine fl_Tq.stp (pc' := 86) (lv' := [some (.inr (.inr (.inl (18, 18 + 4 * i)))), some (.inl w), some (.inr (.inr (.inl (3, 3)))), some (.inr (.inr (.inl (4, 4)))), some (.inl ((f (18 + 4 * i) 4) + (f (18 + 4 * i) 7))), some (.inl ((((f (18 + 4 * i) 4) + (f (18 + 4 * i) 7)) - (f 4 1)) * (f 4 5))), some (.inl (((f 4 2) - (f (18 + 4 * i) 6)) * (500 : Int32))), some (.inl (c0_zoneCurrent_v f (f (18 + 4 * i) 6)))]) (st' := [.inl ((((f (18 + 4 * i) 4) + (f (18 + 4 * i) 7)) - (f 4 1)) * (f 4 5)), .inl (c0_zoneCurrent_v f (f (18 + 4 * i) 6)), .inl (0 : Int32)]) (m' := (f, l)) rfl rfl (fl_bo rfl) rfl ?_
    refine fl_Tq.stp (pc' := 88) (lv' := [some (.inr (.inr (.inl (18, 18 + 4 * i)))), some (.inl w), some (.inr (.inr (.inl (3, 3)))), some (.inr (.inr (.inl (4, 4)))), some (.inl ((f (18 + 4 * i) 4) + (f (18 + 4 * i) 7))), some (.inl ((((f (18 + 4 * i) 4) + (f (18 + 4 * i) 7)) - (f 4 1)) * (f 4 5))), some (.inl (((f 4 2) - (f (18 + 4 * i) 6)) * (500 : Int32))), some (.inl (c0_zoneCurrent_v f (f (18 + 4 * i) 6)))]) (st' := [.inl (((f 4 2) - (f (18 + 4 * i) 6)) * (500 : Int32)), .inl ((((f (18 + 4 * i) 4) + (f (18 + 4 * i) 7)) - (f 4 1)) * (f 4 5)), .inl (c0_zoneCurrent_v f (f (18 + 4 * i) 6)), .inl (0 : Int32)]) (m' := (f, l)) rfl rfl (fl_bo rfl) rfl ?_
    refine fl_Tq.cal rfl rfl (fl_bo rfl) rfl ?_
    refine t2_min_q  ?_
    show fl_Tq _ 9 91 [some (.inr (.inr (.inl (18, 18 + 4 * i)))), some (.inl w), some (.inr (.inr (.inl (3, 3)))), some (.inr (.inr (.inl (4, 4)))), some (.inl ((f (18 + 4 * i) 4) + (f (18 + 4 * i) 7))), some (.inl ((((f (18 + 4 * i) 4) + (f (18 + 4 * i) 7)) - (f 4 1)) * (f 4 5))), some (.inl (((f 4 2) - (f (18 + 4 * i) 6)) * (500 : Int32))), some (.inl (c0_zoneCurrent_v f (f (18 + 4 * i) 6)))] [.inl (t2_min_v ((((f (18 + 4 * i) 4) + (f (18 + 4 * i) 7)) - (f 4 1)) * (f 4 5)) (((f 4 2) - (f (18 + 4 * i) 6)) * (500 : Int32))), .inl (c0_zoneCurrent_v f (f (18 + 4 * i) 6)), .inl (0 : Int32)] (f, l) _
    refine fl_Tq.cal rfl rfl (fl_bo rfl) rfl ?_
    refine t2_min_q  ?_
    show fl_Tq _ 9 94 [some (.inr (.inr (.inl (18, 18 + 4 * i)))), some (.inl w), some (.inr (.inr (.inl (3, 3)))), some (.inr (.inr (.inl (4, 4)))), some (.inl ((f (18 + 4 * i) 4) + (f (18 + 4 * i) 7))), some (.inl ((((f (18 + 4 * i) 4) + (f (18 + 4 * i) 7)) - (f 4 1)) * (f 4 5))), some (.inl (((f 4 2) - (f (18 + 4 * i) 6)) * (500 : Int32))), some (.inl (c0_zoneCurrent_v f (f (18 + 4 * i) 6)))] [.inl (t2_min_v (c0_zoneCurrent_v f (f (18 + 4 * i) 6)) (t2_min_v ((((f (18 + 4 * i) 4) + (f (18 + 4 * i) 7)) - (f 4 1)) * (f 4 5)) (((f 4 2) - (f (18 + 4 * i) 6)) * (500 : Int32)))), .inl (0 : Int32)] (f, l) _
    refine fl_Tq.cal rfl rfl (fl_bo rfl) rfl ?_
    refine t2_max_q  ?_
    show fl_Tq _ 9 97 [some (.inr (.inr (.inl (18, 18 + 4 * i)))), some (.inl w), some (.inr (.inr (.inl (3, 3)))), some (.inr (.inr (.inl (4, 4)))), some (.inl ((f (18 + 4 * i) 4) + (f (18 + 4 * i) 7))), some (.inl ((((f (18 + 4 * i) 4) + (f (18 + 4 * i) 7)) - (f 4 1)) * (f 4 5))), some (.inl (((f 4 2) - (f (18 + 4 * i) 6)) * (500 : Int32))), some (.inl (c0_zoneCurrent_v f (f (18 + 4 * i) 6)))] [.inl (t2_max_v (0 : Int32) (t2_min_v (c0_zoneCurrent_v f (f (18 + 4 * i) 6)) (t2_min_v ((((f (18 + 4 * i) 4) + (f (18 + 4 * i) 7)) - (f 4 1)) * (f 4 5)) (((f 4 2) - (f (18 + 4 * i) 6)) * (500 : Int32)))))] (f, l) _
    refine fl_Tq.ret rfl rfl rfl ?_
    unfold c0_ownLimit_v at k
    simp only [if_neg h1] at k
    exact k
noncomputable def c2_zoneCurrent_a5 (f : t2_F) (w : Int32) : Nat → Int32
  | 0 => (2147483647 : Int32)
  | k5 + 1 => if w.toInt < (f 187 (2 * k5)).toInt then c2_zoneCurrent_a5 f w k5 else f 187 (2 * k5 + 1)
noncomputable def c2_zoneCurrent_v (f : t2_F) (w : Int32) : Int32 := c2_zoneCurrent_a5 f w ((f 183 6).toInt.toNat)
theorem c2_zoneCurrent_q {L : Nat} {xs : Nat → Int32} {f : t2_F} {l : t2_L} {Q : Option fl_V → fl_M → Prop} {w : Int32} (hz : 0 ≤ (f 183 6).toInt ∧ (f 183 6).toInt ≤ 6) (k : Q (some (.inl (c2_zoneCurrent_v f w))) (f, l)) : fl_Tq (pw_P L xs) 79 0 (fl_args (am_mxl (pw_P L xs) 79) [.inr (.inr (.inl (51, 183))), .inl w]) [] (f, l) Q := by
  refine fl_Tq.stp (pc' := 2) (lv' := [some (.inr (.inr (.inl (51, 183)))), some (.inl w), none, none]) (st' := [.inl (2147483647 : Int32)]) (m' := (f, l)) rfl rfl (fl_bo rfl) rfl ?_
  refine fl_Tq.stp (pc' := 3) (lv' := [some (.inr (.inr (.inl (51, 183)))), some (.inl w), some (.inl (2147483647 : Int32)), none]) (st' := []) (m' := (f, l)) rfl rfl (fl_bo rfl) rfl ?_
  refine fl_Tq.cI (c := (0 : Int32)) rfl (by decide +kernel) (fl_bo rfl) ?_
  refine fl_Tq.stp (pc' := 5) (lv' := [some (.inr (.inr (.inl (51, 183)))), some (.inl w), some (.inl (2147483647 : Int32)), some (.inl (0 : Int32))]) (st' := []) (m' := (f, l)) rfl rfl (fl_bo rfl) rfl ?_
  have hs5 : ∀ k5 : Nat, k5 < (f 183 6).toInt.toNat → fl_Tq (pw_P L xs) 79 5 [some (.inr (.inr (.inl (51, 183)))), some (.inl w), some (.inl (c2_zoneCurrent_a5 f w (k5 + 1))), some (.inl (Int32.ofNat (k5 + 1)))] [] (f, l) Q → fl_Tq (pw_P L xs) 79 5 [some (.inr (.inr (.inl (51, 183)))), some (.inl w), some (.inl (c2_zoneCurrent_a5 f w k5)), some (.inl (Int32.ofNat k5))] [] (f, l) Q := by
    intro k5 hk5 hS
    refine fl_Tq.stp (pc' := 6) (lv' := [some (.inr (.inr (.inl (51, 183)))), some (.inl w), some (.inl (c2_zoneCurrent_a5 f w k5)), some (.inl (Int32.ofNat k5))]) (st' := [.inl (Int32.ofNat k5)]) (m' := (f, l)) rfl rfl (fl_bo rfl) rfl ?_
    refine fl_Tq.stp (pc' := 7) (lv' := [some (.inr (.inr (.inl (51, 183)))), some (.inl w), some (.inl (c2_zoneCurrent_a5 f w k5)), some (.inl (Int32.ofNat k5))]) (st' := [.inr (.inr (.inl (51, 183))), .inl (Int32.ofNat k5)]) (m' := (f, l)) rfl rfl (fl_bo rfl) rfl ?_
    refine fl_Tq.gfV (k := 6) (v := f 183 6) rfl (fl_bo rfl) rfl rfl ?_
    refine fl_Tq.jf rfl (fl_bo rfl) (c2_ge_f (t2_lk hk5 (t2_nn hz.1))) rfl ?_
    refine fl_Tq.stp (pc' := 14) (lv' := [some (.inr (.inr (.inl (51, 183)))), some (.inl w), some (.inl (c2_zoneCurrent_a5 f w k5)), some (.inl (Int32.ofNat k5))]) (st' := [.inl w]) (m' := (f, l)) rfl rfl (fl_bo rfl) rfl ?_
    refine fl_Tq.stp (pc' := 15) (lv' := [some (.inr (.inr (.inl (51, 183)))), some (.inl w), some (.inl (c2_zoneCurrent_a5 f w k5)), some (.inl (Int32.ofNat k5))]) (st' := [.inr (.inr (.inl (51, 183))), .inl w]) (m' := (f, l)) rfl rfl (fl_bo rfl) rfl ?_
    refine fl_Tq.stp (pc' := 18) (lv' := [some (.inr (.inr (.inl (51, 183)))), some (.inl w), some (.inl (c2_zoneCurrent_a5 f w k5)), some (.inl (Int32.ofNat k5))]) (st' := [.inr (.inr (.inl (55, 187))), .inl w]) (m' := (f, l)) rfl rfl (fl_bo rfl) rfl ?_
    refine fl_Tq.stp (pc' := 19) (lv' := [some (.inr (.inr (.inl (51, 183)))), some (.inl w), some (.inl (c2_zoneCurrent_a5 f w k5)), some (.inl (Int32.ofNat k5))]) (st' := [.inl (Int32.ofNat k5), .inr (.inr (.inl (55, 187))), .inl w]) (m' := (f, l)) rfl rfl (fl_bo rfl) rfl ?_
    refine fl_Tq.cI (c := (2 : Int32)) rfl (by decide +kernel) (fl_bo rfl) ?_
    refine fl_Tq.stp (pc' := 21) (lv' := [some (.inr (.inr (.inl (51, 183)))), some (.inl w), some (.inl (c2_zoneCurrent_a5 f w k5)), some (.inl (Int32.ofNat k5))]) (st' := [.inl ((Int32.ofNat k5) * (2 : Int32)), .inr (.inr (.inl (55, 187))), .inl w]) (m' := (f, l)) rfl rfl (fl_bo rfl) rfl ?_
    refine fl_Tq.ldV (p := 187) (τ := 55) (n := 12) (z := (0, 0, 0)) (k := 2 * k5) (v := f 187 (2 * k5)) rfl (fl_bo rfl) rfl (t2_i2 (by omega)) (by omega) rfl ?_
    have hj29 : fl_Tq (pw_P L xs) 79 36 [some (.inr (.inr (.inl (51, 183)))), some (.inl w), some (.inl (if w.toInt < (f 187 (2 * k5)).toInt then c2_zoneCurrent_a5 f w k5 else f 187 (2 * k5 + 1))), some (.inl (Int32.ofNat k5))] [] (f, l) Q → fl_Tq (pw_P L xs) 79 22 [some (.inr (.inr (.inl (51, 183)))), some (.inl w), some (.inl (c2_zoneCurrent_a5 f w k5)), some (.inl (Int32.ofNat k5))] [.inl (f 187 (2 * k5)), .inl w] (f, l) Q := by
      intro hJ
      by_cases h1 : w.toInt < (f 187 (2 * k5)).toInt
      · refine fl_Tq.jt rfl (fl_bo rfl) (c2_lt_t h1) rfl ?_
        have e0 : (if w.toInt < (f 187 (2 * k5)).toInt then c2_zoneCurrent_a5 f w k5 else f 187 (2 * k5 + 1)) = c2_zoneCurrent_a5 f w k5 := by simp only [if_pos h1]
        rw [e0] at hJ
        exact hJ
      · refine fl_Tq.jf rfl (fl_bo rfl) (c2_lt_f h1) rfl ?_
        refine fl_Tq.stp (pc' := 26) (lv' := [some (.inr (.inr (.inl (51, 183)))), some (.inl w), some (.inl (c2_zoneCurrent_a5 f w k5)), some (.inl (Int32.ofNat k5))]) (st' := [.inr (.inr (.inl (51, 183)))]) (m' := (f, l)) rfl rfl (fl_bo rfl) rfl ?_
        refine fl_Tq.stp (pc' := 29) (lv' := [some (.inr (.inr (.inl (51, 183)))), some (.inl w), some (.inl (c2_zoneCurrent_a5 f w k5)), some (.inl (Int32.ofNat k5))]) (st' := [.inr (.inr (.inl (55, 187)))]) (m' := (f, l)) rfl rfl (fl_bo rfl) rfl ?_
        refine fl_Tq.stp (pc' := 30) (lv' := [some (.inr (.inr (.inl (51, 183)))), some (.inl w), some (.inl (c2_zoneCurrent_a5 f w k5)), some (.inl (Int32.ofNat k5))]) (st' := [.inl (Int32.ofNat k5), .inr (.inr (.inl (55, 187)))]) (m' := (f, l)) rfl rfl (fl_bo rfl) rfl ?_
        refine fl_Tq.cI (c := (2 : Int32)) rfl (by decide +kernel) (fl_bo rfl) ?_
        refine fl_Tq.stp (pc' := 32) (lv' := [some (.inr (.inr (.inl (51, 183)))), some (.inl w), some (.inl (c2_zoneCurrent_a5 f w k5)), some (.inl (Int32.ofNat k5))]) (st' := [.inl ((Int32.ofNat k5) * (2 : Int32)), .inr (.inr (.inl (55, 187)))]) (m' := (f, l)) rfl rfl (fl_bo rfl) rfl ?_
        refine fl_Tq.cI (c := (1 : Int32)) rfl (by decide +kernel) (fl_bo rfl) ?_
        refine fl_Tq.stp (pc' := 34) (lv' := [some (.inr (.inr (.inl (51, 183)))), some (.inl w), some (.inl (c2_zoneCurrent_a5 f w k5)), some (.inl (Int32.ofNat k5))]) (st' := [.inl (((Int32.ofNat k5) * (2 : Int32)) + (1 : Int32)), .inr (.inr (.inl (55, 187)))]) (m' := (f, l)) rfl rfl (fl_bo rfl) rfl ?_
        refine fl_Tq.ldV (p := 187) (τ := 55) (n := 12) (z := (0, 0, 0)) (k := 2 * k5 + 1) (v := f 187 (2 * k5 + 1)) rfl (fl_bo rfl) rfl (t2_i21 (by omega)) (by omega) rfl ?_
        refine fl_Tq.stp (pc' := 36) (lv' := [some (.inr (.inr (.inl (51, 183)))), some (.inl w), some (.inl (f 187 (2 * k5 + 1))), some (.inl (Int32.ofNat k5))]) (st' := []) (m' := (f, l)) rfl rfl (fl_bo rfl) rfl ?_
        have e0 : (if w.toInt < (f 187 (2 * k5)).toInt then c2_zoneCurrent_a5 f w k5 else f 187 (2 * k5 + 1)) = f 187 (2 * k5 + 1) := by simp only [if_neg h1]
        rw [e0] at hJ
        exact hJ
    refine hj29 ?_
    show fl_Tq _ 79 36 [some (.inr (.inr (.inl (51, 183)))), some (.inl w), some (.inl (if w.toInt < (f 187 (2 * k5)).toInt then c2_zoneCurrent_a5 f w k5 else f 187 (2 * k5 + 1))), some (.inl (Int32.ofNat k5))] [] (f, l) _
    refine fl_Tq.stp (pc' := 39) (lv' := [some (.inr (.inr (.inl (51, 183)))), some (.inl w), some (.inl (if w.toInt < (f 187 (2 * k5)).toInt then c2_zoneCurrent_a5 f w k5 else f 187 (2 * k5 + 1))), some (.inl ((Int32.ofNat k5) + (1 : Int32)))]) (st' := []) (m' := (f, l)) rfl rfl (fl_bo rfl) rfl ?_
    refine fl_Tq.stp (pc' := 5) (lv' := [some (.inr (.inr (.inl (51, 183)))), some (.inl w), some (.inl (if w.toInt < (f 187 (2 * k5)).toInt then c2_zoneCurrent_a5 f w k5 else f 187 (2 * k5 + 1))), some (.inl ((Int32.ofNat k5) + (1 : Int32)))]) (st' := []) (m' := (f, l)) rfl rfl (fl_bo rfl) rfl ?_
    have ea : c2_zoneCurrent_a5 f w (k5 + 1) = if w.toInt < (f 187 (2 * k5)).toInt then c2_zoneCurrent_a5 f w k5 else f 187 (2 * k5 + 1) := by
      show (if w.toInt < (f 187 (2 * k5)).toInt then c2_zoneCurrent_a5 f w k5 else f 187 (2 * k5 + 1)) = _
      rfl
    rw [ea, ← t2_k1] at hS
    exact hS
  refine t2_for (S := fun k5 => fl_Tq (pw_P L xs) 79 5 [some (.inr (.inr (.inl (51, 183)))), some (.inl w), some (.inl (c2_zoneCurrent_a5 f w k5)), some (.inl (Int32.ofNat k5))] [] (f, l) Q) hs5 ?_
  show fl_Tq (pw_P L xs) 79 5 [some (.inr (.inr (.inl (51, 183)))), some (.inl w), some (.inl (c2_zoneCurrent_a5 f w ((f 183 6).toInt.toNat))), some (.inl (Int32.ofNat ((f 183 6).toInt.toNat)))] [] (f, l) _
  refine fl_Tq.stp (pc' := 6) (lv' := [some (.inr (.inr (.inl (51, 183)))), some (.inl w), some (.inl (c2_zoneCurrent_a5 f w ((f 183 6).toInt.toNat))), some (.inl (Int32.ofNat ((f 183 6).toInt.toNat)))]) (st' := [.inl (Int32.ofNat ((f 183 6).toInt.toNat))]) (m' := (f, l)) rfl rfl (fl_bo rfl) rfl ?_
  refine fl_Tq.stp (pc' := 7) (lv' := [some (.inr (.inr (.inl (51, 183)))), some (.inl w), some (.inl (c2_zoneCurrent_a5 f w ((f 183 6).toInt.toNat))), some (.inl (Int32.ofNat ((f 183 6).toInt.toNat)))]) (st' := [.inr (.inr (.inl (51, 183))), .inl (Int32.ofNat ((f 183 6).toInt.toNat))]) (m' := (f, l)) rfl rfl (fl_bo rfl) rfl ?_
  refine fl_Tq.gfV (k := 6) (v := f 183 6) rfl (fl_bo rfl) rfl rfl ?_
  refine fl_Tq.jt rfl (fl_bo rfl) (c2_ge_t (t2_ln (t2_nn hz.1))) rfl ?_
  refine fl_Tq.stp (pc' := 43) (lv' := [some (.inr (.inr (.inl (51, 183)))), some (.inl w), some (.inl (c2_zoneCurrent_a5 f w ((f 183 6).toInt.toNat))), some (.inl (Int32.ofNat ((f 183 6).toInt.toNat)))]) (st' := [.inl (c2_zoneCurrent_a5 f w ((f 183 6).toInt.toNat))]) (m' := (f, l)) rfl rfl (fl_bo rfl) rfl ?_
  exact fl_Tq.ret rfl rfl rfl k
noncomputable def c2_ownLimit_v (f : t2_F) (i : Nat) (w : Int32) : Int32 := if w.toInt = 0 then (if (f (198 + 4 * i) 6).toInt < (f 184 3).toInt then (0 : Int32) else t2_max_v (0 : Int32) (t2_min_v (c2_zoneCurrent_v f (f (198 + 4 * i) 6)) (t2_min_v (((f 184 0) - ((f (198 + 4 * i) 4) + (f (198 + 4 * i) 7))) * (f 184 5)) (((f 184 2) - (f (198 + 4 * i) 6)) * (500 : Int32))))) else t2_max_v (0 : Int32) (t2_min_v (c2_zoneCurrent_v f (f (198 + 4 * i) 6)) (t2_min_v ((((f (198 + 4 * i) 4) + (f (198 + 4 * i) 7)) - (f 184 1)) * (f 184 5)) (((f 184 2) - (f (198 + 4 * i) 6)) * (500 : Int32))))
theorem c2_ownLimit_q {L : Nat} {xs : Nat → Int32} {f : t2_F} {l : t2_L} {Q : Option fl_V → fl_M → Prop} {i : Nat} {w : Int32} (hi : i < 16) (hz : 0 ≤ (f 183 6).toInt ∧ (f 183 6).toInt ≤ 6) (k : Q (some (.inl (c2_ownLimit_v f i w))) (f, l)) : fl_Tq (pw_P L xs) 9 0 (fl_args (am_mxl (pw_P L xs) 9) [.inr (.inr (.inl (66, 198 + 4 * i))), .inl w, .inr (.inr (.inl (51, 183)))]) [] (f, l) Q := by
  refine fl_Tq.stp (pc' := 1) (lv' := [some (.inr (.inr (.inl (66, 198 + 4 * i)))), some (.inl w), some (.inr (.inr (.inl (51, 183)))), none, none, none, none, none]) (st' := [.inr (.inr (.inl (51, 183)))]) (m' := (f, l)) rfl rfl (fl_bo rfl) rfl ?_
  refine fl_Tq.stp (pc' := 4) (lv' := [some (.inr (.inr (.inl (66, 198 + 4 * i)))), some (.inl w), some (.inr (.inr (.inl (51, 183)))), none, none, none, none, none]) (st' := [.inr (.inr (.inl (52, 184)))]) (m' := (f, l)) rfl rfl (fl_bo rfl) rfl ?_
  refine fl_Tq.stp (pc' := 5) (lv' := [some (.inr (.inr (.inl (66, 198 + 4 * i)))), some (.inl w), some (.inr (.inr (.inl (51, 183)))), some (.inr (.inr (.inl (52, 184)))), none, none, none, none]) (st' := []) (m' := (f, l)) rfl rfl (fl_bo rfl) rfl ?_
  refine fl_Tq.stp (pc' := 6) (lv' := [some (.inr (.inr (.inl (66, 198 + 4 * i)))), some (.inl w), some (.inr (.inr (.inl (51, 183)))), some (.inr (.inr (.inl (52, 184)))), none, none, none, none]) (st' := [.inl w]) (m' := (f, l)) rfl rfl (fl_bo rfl) rfl ?_
  by_cases h1 : w.toInt = 0
  · refine fl_Tq.zf rfl (fl_bo rfl) (c1_ne_f h1) rfl ?_
    refine fl_Tq.stp (pc' := 10) (lv' := [some (.inr (.inr (.inl (66, 198 + 4 * i)))), some (.inl w), some (.inr (.inr (.inl (51, 183)))), some (.inr (.inr (.inl (52, 184)))), none, none, none, none]) (st' := [.inr (.inr (.inl (66, 198 + 4 * i)))]) (m' := (f, l)) rfl rfl (fl_bo rfl) rfl ?_
    refine fl_Tq.gfV (k := 6) (v := f (198 + 4 * i) 6) rfl (fl_oks_ok ⟨t2_kc2 hi, True.intro⟩) rfl rfl ?_
    refine fl_Tq.stp (pc' := 14) (lv' := [some (.inr (.inr (.inl (66, 198 + 4 * i)))), some (.inl w), some (.inr (.inr (.inl (51, 183)))), some (.inr (.inr (.inl (52, 184)))), none, none, none, none]) (st' := [.inr (.inr (.inl (52, 184))), .inl (f (198 + 4 * i) 6)]) (m' := (f, l)) rfl rfl (fl_bo rfl) rfl ?_
    refine fl_Tq.cI (c := (3 : Int32)) rfl (by decide +kernel) (fl_bo rfl) ?_
    refine fl_Tq.ldV (p := 184) (τ := 52) (n := 30) (z := (0, 0, 0)) (k := 3) (v := f 184 3) rfl (fl_bo rfl) rfl (by decide +kernel) (by decide) rfl ?_
    by_cases h2 : (f (198 + 4 * i) 6).toInt < (f 184 3).toInt
    · refine fl_Tq.jf rfl (fl_bo rfl) (c2_ge_f h2) rfl ?_
      refine fl_Tq.cI (c := (0 : Int32)) rfl (by decide +kernel) (fl_bo rfl) ?_
      refine fl_Tq.ret rfl rfl rfl ?_
      unfold c2_ownLimit_v at k
      simp only [if_pos h1, if_pos h2] at k
      exact k
    · refine fl_Tq.jt rfl (fl_bo rfl) (c2_ge_t h2) rfl ?_
      refine fl_Tq.stp (pc' := 22) (lv' := [some (.inr (.inr (.inl (66, 198 + 4 * i)))), some (.inl w), some (.inr (.inr (.inl (51, 183)))), some (.inr (.inr (.inl (52, 184)))), none, none, none, none]) (st' := [.inr (.inr (.inl (66, 198 + 4 * i)))]) (m' := (f, l)) rfl rfl (fl_bo rfl) rfl ?_
      refine fl_Tq.gfV (k := 4) (v := f (198 + 4 * i) 4) rfl (fl_oks_ok ⟨t2_kc2 hi, True.intro⟩) rfl rfl ?_
      refine fl_Tq.stp (pc' := 26) (lv' := [some (.inr (.inr (.inl (66, 198 + 4 * i)))), some (.inl w), some (.inr (.inr (.inl (51, 183)))), some (.inr (.inr (.inl (52, 184)))), none, none, none, none]) (st' := [.inr (.inr (.inl (66, 198 + 4 * i))), .inl (f (198 + 4 * i) 4)]) (m' := (f, l)) rfl rfl (fl_bo rfl) rfl ?_
      refine fl_Tq.gfV (k := 7) (v := f (198 + 4 * i) 7) rfl (fl_oks_ok ⟨t2_kc2 hi, True.intro, True.intro⟩) rfl rfl ?_
      refine fl_Tq.stp (pc' := 30) (lv' := [some (.inr (.inr (.inl (66, 198 + 4 * i)))), some (.inl w), some (.inr (.inr (.inl (51, 183)))), some (.inr (.inr (.inl (52, 184)))), none, none, none, none]) (st' := [.inl ((f (198 + 4 * i) 4) + (f (198 + 4 * i) 7))]) (m' := (f, l)) rfl rfl (fl_bo rfl) rfl ?_
      refine fl_Tq.stp (pc' := 32) (lv' := [some (.inr (.inr (.inl (66, 198 + 4 * i)))), some (.inl w), some (.inr (.inr (.inl (51, 183)))), some (.inr (.inr (.inl (52, 184)))), some (.inl ((f (198 + 4 * i) 4) + (f (198 + 4 * i) 7))), none, none, none]) (st' := []) (m' := (f, l)) rfl rfl (fl_bo rfl) rfl ?_
      refine fl_Tq.stp (pc' := 33) (lv' := [some (.inr (.inr (.inl (66, 198 + 4 * i)))), some (.inl w), some (.inr (.inr (.inl (51, 183)))), some (.inr (.inr (.inl (52, 184)))), some (.inl ((f (198 + 4 * i) 4) + (f (198 + 4 * i) 7))), none, none, none]) (st' := [.inl w]) (m' := (f, l)) rfl rfl (fl_bo rfl) rfl ?_
      refine fl_Tq.zf rfl (fl_bo rfl) (c1_ne_f h1) rfl ?_
      refine fl_Tq.stp (pc' := 37) (lv' := [some (.inr (.inr (.inl (66, 198 + 4 * i)))), some (.inl w), some (.inr (.inr (.inl (51, 183)))), some (.inr (.inr (.inl (52, 184)))), some (.inl ((f (198 + 4 * i) 4) + (f (198 + 4 * i) 7))), none, none, none]) (st' := [.inr (.inr (.inl (52, 184)))]) (m' := (f, l)) rfl rfl (fl_bo rfl) rfl ?_
      refine fl_Tq.cI (c := (0 : Int32)) rfl (by decide +kernel) (fl_bo rfl) ?_
      refine fl_Tq.ldV (p := 184) (τ := 52) (n := 30) (z := (0, 0, 0)) (k := 0) (v := f 184 0) rfl (fl_bo rfl) rfl (by decide +kernel) (by decide) rfl ?_
      refine fl_Tq.stp (pc' := 41) (lv' := [some (.inr (.inr (.inl (66, 198 + 4 * i)))), some (.inl w), some (.inr (.inr (.inl (51, 183)))), some (.inr (.inr (.inl (52, 184)))), some (.inl ((f (198 + 4 * i) 4) + (f (198 + 4 * i) 7))), none, none, none]) (st' := [.inl ((f (198 + 4 * i) 4) + (f (198 + 4 * i) 7)), .inl (f 184 0)]) (m' := (f, l)) rfl rfl (fl_bo rfl) rfl ?_
      refine fl_Tq.stp (pc' := 42) (lv' := [some (.inr (.inr (.inl (66, 198 + 4 * i)))), some (.inl w), some (.inr (.inr (.inl (51, 183)))), some (.inr (.inr (.inl (52, 184)))), some (.inl ((f (198 + 4 * i) 4) + (f (198 + 4 * i) 7))), none, none, none]) (st' := [.inl ((f 184 0) - ((f (198 + 4 * i) 4) + (f (198 + 4 * i) 7)))]) (m' := (f, l)) rfl rfl (fl_bo rfl) rfl ?_
      refine fl_Tq.stp (pc' := 51) (lv' := [some (.inr (.inr (.inl (66, 198 + 4 * i)))), some (.inl w), some (.inr (.inr (.inl (51, 183)))), some (.inr (.inr (.inl (52, 184)))), some (.inl ((f (198 + 4 * i) 4) + (f (198 + 4 * i) 7))), none, none, none]) (st' := [.inl ((f 184 0) - ((f (198 + 4 * i) 4) + (f (198 + 4 * i) 7)))]) (m' := (f, l)) rfl rfl (fl_bo rfl) rfl ?_
      refine fl_Tq.stp (pc' := 52) (lv' := [some (.inr (.inr (.inl (66, 198 + 4 * i)))), some (.inl w), some (.inr (.inr (.inl (51, 183)))), some (.inr (.inr (.inl (52, 184)))), some (.inl ((f (198 + 4 * i) 4) + (f (198 + 4 * i) 7))), none, none, none]) (st' := [.inr (.inr (.inl (52, 184))), .inl ((f 184 0) - ((f (198 + 4 * i) 4) + (f (198 + 4 * i) 7)))]) (m' := (f, l)) rfl rfl (fl_bo rfl) rfl ?_
      refine fl_Tq.cI (c := (5 : Int32)) rfl (by decide +kernel) (fl_bo rfl) ?_
      refine fl_Tq.ldV (p := 184) (τ := 52) (n := 30) (z := (0, 0, 0)) (k := 5) (v := f 184 5) rfl (fl_bo rfl) rfl (by decide +kernel) (by decide) rfl ?_
      refine fl_Tq.stp (pc' := 55) (lv' := [some (.inr (.inr (.inl (66, 198 + 4 * i)))), some (.inl w), some (.inr (.inr (.inl (51, 183)))), some (.inr (.inr (.inl (52, 184)))), some (.inl ((f (198 + 4 * i) 4) + (f (198 + 4 * i) 7))), none, none, none]) (st' := [.inl (((f 184 0) - ((f (198 + 4 * i) 4) + (f (198 + 4 * i) 7))) * (f 184 5))]) (m' := (f, l)) rfl rfl (fl_bo rfl) rfl ?_
      refine fl_Tq.stp (pc' := 57) (lv' := [some (.inr (.inr (.inl (66, 198 + 4 * i)))), some (.inl w), some (.inr (.inr (.inl (51, 183)))), some (.inr (.inr (.inl (52, 184)))), some (.inl ((f (198 + 4 * i) 4) + (f (198 + 4 * i) 7))), some (.inl (((f 184 0) - ((f (198 + 4 * i) 4) + (f (198 + 4 * i) 7))) * (f 184 5))), none, none]) (st' := []) (m' := (f, l)) rfl rfl (fl_bo rfl) rfl ?_
      refine fl_Tq.stp (pc' := 58) (lv' := [some (.inr (.inr (.inl (66, 198 + 4 * i)))), some (.inl w), some (.inr (.inr (.inl (51, 183)))), some (.inr (.inr (.inl (52, 184)))), some (.inl ((f (198 + 4 * i) 4) + (f (198 + 4 * i) 7))), some (.inl (((f 184 0) - ((f (198 + 4 * i) 4) + (f (198 + 4 * i) 7))) * (f 184 5))), none, none]) (st' := [.inr (.inr (.inl (52, 184)))]) (m' := (f, l)) rfl rfl (fl_bo rfl) rfl ?_
      refine fl_Tq.cI (c := (2 : Int32)) rfl (by decide +kernel) (fl_bo rfl) ?_
      refine fl_Tq.ldV (p := 184) (τ := 52) (n := 30) (z := (0, 0, 0)) (k := 2) (v := f 184 2) rfl (fl_bo rfl) rfl (by decide +kernel) (by decide) rfl ?_
      refine fl_Tq.stp (pc' := 61) (lv' := [some (.inr (.inr (.inl (66, 198 + 4 * i)))), some (.inl w), some (.inr (.inr (.inl (51, 183)))), some (.inr (.inr (.inl (52, 184)))), some (.inl ((f (198 + 4 * i) 4) + (f (198 + 4 * i) 7))), some (.inl (((f 184 0) - ((f (198 + 4 * i) 4) + (f (198 + 4 * i) 7))) * (f 184 5))), none, none]) (st' := [.inr (.inr (.inl (66, 198 + 4 * i))), .inl (f 184 2)]) (m' := (f, l)) rfl rfl (fl_bo rfl) rfl ?_
      refine fl_Tq.gfV (k := 6) (v := f (198 + 4 * i) 6) rfl (fl_oks_ok ⟨t2_kc2 hi, True.intro, True.intro⟩) rfl rfl ?_
      refine fl_Tq.stp (pc' := 65) (lv' := [some (.inr (.inr (.inl (66, 198 + 4 * i)))), some (.inl w), some (.inr (.inr (.inl (51, 183)))), some (.inr (.inr (.inl (52, 184)))), some (.inl ((f (198 + 4 * i) 4) + (f (198 + 4 * i) 7))), some (.inl (((f 184 0) - ((f (198 + 4 * i) 4) + (f (198 + 4 * i) 7))) * (f 184 5))), none, none]) (st' := [.inl ((f 184 2) - (f (198 + 4 * i) 6))]) (m' := (f, l)) rfl rfl (fl_bo rfl) rfl ?_
      refine fl_Tq.cS (c := (500 : Int32)) rfl (by decide +kernel) (fl_bo rfl) ?_
      refine fl_Tq.stp (pc' := 69) (lv' := [some (.inr (.inr (.inl (66, 198 + 4 * i)))), some (.inl w), some (.inr (.inr (.inl (51, 183)))), some (.inr (.inr (.inl (52, 184)))), some (.inl ((f (198 + 4 * i) 4) + (f (198 + 4 * i) 7))), some (.inl (((f 184 0) - ((f (198 + 4 * i) 4) + (f (198 + 4 * i) 7))) * (f 184 5))), none, none]) (st' := [.inl (((f 184 2) - (f (198 + 4 * i) 6)) * (500 : Int32))]) (m' := (f, l)) rfl rfl (fl_bo rfl) rfl ?_
      refine fl_Tq.stp (pc' := 71) (lv' := [some (.inr (.inr (.inl (66, 198 + 4 * i)))), some (.inl w), some (.inr (.inr (.inl (51, 183)))), some (.inr (.inr (.inl (52, 184)))), some (.inl ((f (198 + 4 * i) 4) + (f (198 + 4 * i) 7))), some (.inl (((f 184 0) - ((f (198 + 4 * i) 4) + (f (198 + 4 * i) 7))) * (f 184 5))), some (.inl (((f 184 2) - (f (198 + 4 * i) 6)) * (500 : Int32))), none]) (st' := []) (m' := (f, l)) rfl rfl (fl_bo rfl) rfl ?_
      refine fl_Tq.stp (pc' := 72) (lv' := [some (.inr (.inr (.inl (66, 198 + 4 * i)))), some (.inl w), some (.inr (.inr (.inl (51, 183)))), some (.inr (.inr (.inl (52, 184)))), some (.inl ((f (198 + 4 * i) 4) + (f (198 + 4 * i) 7))), some (.inl (((f 184 0) - ((f (198 + 4 * i) 4) + (f (198 + 4 * i) 7))) * (f 184 5))), some (.inl (((f 184 2) - (f (198 + 4 * i) 6)) * (500 : Int32))), none]) (st' := [.inr (.inr (.inl (51, 183)))]) (m' := (f, l)) rfl rfl (fl_bo rfl) rfl ?_
      refine fl_Tq.stp (pc' := 73) (lv' := [some (.inr (.inr (.inl (66, 198 + 4 * i)))), some (.inl w), some (.inr (.inr (.inl (51, 183)))), some (.inr (.inr (.inl (52, 184)))), some (.inl ((f (198 + 4 * i) 4) + (f (198 + 4 * i) 7))), some (.inl (((f 184 0) - ((f (198 + 4 * i) 4) + (f (198 + 4 * i) 7))) * (f 184 5))), some (.inl (((f 184 2) - (f (198 + 4 * i) 6)) * (500 : Int32))), none]) (st' := [.inr (.inr (.inl (66, 198 + 4 * i))), .inr (.inr (.inl (51, 183)))]) (m' := (f, l)) rfl rfl (fl_bo rfl) rfl ?_
      refine fl_Tq.gfV (k := 6) (v := f (198 + 4 * i) 6) rfl (fl_oks_ok ⟨t2_kc2 hi, fl_okp (by decide +kernel) (by decide), True.intro⟩) rfl rfl ?_
      refine fl_Tq.cal rfl rfl (fl_bo rfl) rfl ?_
      refine c2_zoneCurrent_q hz ?_
      show fl_Tq _ 9 79 [some (.inr (.inr (.inl (66, 198 + 4 * i)))), some (.inl w), some (.inr (.inr (.inl (51, 183)))), some (.inr (.inr (.inl (52, 184)))), some (.inl ((f (198 + 4 * i) 4) + (f (198 + 4 * i) 7))), some (.inl (((f 184 0) - ((f (198 + 4 * i) 4) + (f (198 + 4 * i) 7))) * (f 184 5))), some (.inl (((f 184 2) - (f (198 + 4 * i) 6)) * (500 : Int32))), none] [.inl (c2_zoneCurrent_v f (f (198 + 4 * i) 6))] (f, l) _
      refine fl_Tq.stp (pc' := 81) (lv' := [some (.inr (.inr (.inl (66, 198 + 4 * i)))), some (.inl w), some (.inr (.inr (.inl (51, 183)))), some (.inr (.inr (.inl (52, 184)))), some (.inl ((f (198 + 4 * i) 4) + (f (198 + 4 * i) 7))), some (.inl (((f 184 0) - ((f (198 + 4 * i) 4) + (f (198 + 4 * i) 7))) * (f 184 5))), some (.inl (((f 184 2) - (f (198 + 4 * i) 6)) * (500 : Int32))), some (.inl (c2_zoneCurrent_v f (f (198 + 4 * i) 6)))]) (st' := []) (m' := (f, l)) rfl rfl (fl_bo rfl) rfl ?_
      refine fl_Tq.cI (c := (0 : Int32)) rfl (by decide +kernel) (fl_bo rfl) ?_
      refine fl_Tq.stp (pc' := 84) (lv' := [some (.inr (.inr (.inl (66, 198 + 4 * i)))), some (.inl w), some (.inr (.inr (.inl (51, 183)))), some (.inr (.inr (.inl (52, 184)))), some (.inl ((f (198 + 4 * i) 4) + (f (198 + 4 * i) 7))), some (.inl (((f 184 0) - ((f (198 + 4 * i) 4) + (f (198 + 4 * i) 7))) * (f 184 5))), some (.inl (((f 184 2) - (f (198 + 4 * i) 6)) * (500 : Int32))), some (.inl (c2_zoneCurrent_v f (f (198 + 4 * i) 6)))]) (st' := [.inl (c2_zoneCurrent_v f (f (198 + 4 * i) 6)), .inl (0 : Int32)]) (m' := (f, l)) rfl rfl (fl_bo rfl) rfl ?_
      refine fl_Tq.stp (pc' := 86) (lv' := [some (.inr (.inr (.inl (66, 198 + 4 * i)))), some (.inl w), some (.inr (.inr (.inl (51, 183)))), some (.inr (.inr (.inl (52, 184)))), some (.inl ((f (198 + 4 * i) 4) + (f (198 + 4 * i) 7))), some (.inl (((f 184 0) - ((f (198 + 4 * i) 4) + (f (198 + 4 * i) 7))) * (f 184 5))), some (.inl (((f 184 2) - (f (198 + 4 * i) 6)) * (500 : Int32))), some (.inl (c2_zoneCurrent_v f (f (198 + 4 * i) 6)))]) (st' := [.inl (((f 184 0) - ((f (198 + 4 * i) 4) + (f (198 + 4 * i) 7))) * (f 184 5)), .inl (c2_zoneCurrent_v f (f (198 + 4 * i) 6)), .inl (0 : Int32)]) (m' := (f, l)) rfl rfl (fl_bo rfl) rfl ?_
      refine fl_Tq.stp (pc' := 88) (lv' := [some (.inr (.inr (.inl (66, 198 + 4 * i)))), some (.inl w), some (.inr (.inr (.inl (51, 183)))), some (.inr (.inr (.inl (52, 184)))), some (.inl ((f (198 + 4 * i) 4) + (f (198 + 4 * i) 7))), some (.inl (((f 184 0) - ((f (198 + 4 * i) 4) + (f (198 + 4 * i) 7))) * (f 184 5))), some (.inl (((f 184 2) - (f (198 + 4 * i) 6)) * (500 : Int32))), some (.inl (c2_zoneCurrent_v f (f (198 + 4 * i) 6)))]) (st' := [.inl (((f 184 2) - (f (198 + 4 * i) 6)) * (500 : Int32)), .inl (((f 184 0) - ((f (198 + 4 * i) 4) + (f (198 + 4 * i) 7))) * (f 184 5)), .inl (c2_zoneCurrent_v f (f (198 + 4 * i) 6)), .inl (0 : Int32)]) (m' := (f, l)) rfl rfl (fl_bo rfl) rfl ?_
      refine fl_Tq.cal rfl rfl (fl_bo rfl) rfl ?_
      refine t2_min_q  ?_
      show fl_Tq _ 9 91 [some (.inr (.inr (.inl (66, 198 + 4 * i)))), some (.inl w), some (.inr (.inr (.inl (51, 183)))), some (.inr (.inr (.inl (52, 184)))), some (.inl ((f (198 + 4 * i) 4) + (f (198 + 4 * i) 7))), some (.inl (((f 184 0) - ((f (198 + 4 * i) 4) + (f (198 + 4 * i) 7))) * (f 184 5))), some (.inl (((f 184 2) - (f (198 + 4 * i) 6)) * (500 : Int32))), some (.inl (c2_zoneCurrent_v f (f (198 + 4 * i) 6)))] [.inl (t2_min_v (((f 184 0) - ((f (198 + 4 * i) 4) + (f (198 + 4 * i) 7))) * (f 184 5)) (((f 184 2) - (f (198 + 4 * i) 6)) * (500 : Int32))), .inl (c2_zoneCurrent_v f (f (198 + 4 * i) 6)), .inl (0 : Int32)] (f, l) _
      refine fl_Tq.cal rfl rfl (fl_bo rfl) rfl ?_
      refine t2_min_q  ?_
      show fl_Tq _ 9 94 [some (.inr (.inr (.inl (66, 198 + 4 * i)))), some (.inl w), some (.inr (.inr (.inl (51, 183)))), some (.inr (.inr (.inl (52, 184)))), some (.inl ((f (198 + 4 * i) 4) + (f (198 + 4 * i) 7))), some (.inl (((f 184 0) - ((f (198 + 4 * i) 4) + (f (198 + 4 * i) 7))) * (f 184 5))), some (.inl (((f 184 2) - (f (198 + 4 * i) 6)) * (500 : Int32))), some (.inl (c2_zoneCurrent_v f (f (198 + 4 * i) 6)))] [.inl (t2_min_v (c2_zoneCurrent_v f (f (198 + 4 * i) 6)) (t2_min_v (((f 184 0) - ((f (198 + 4 * i) 4) + (f (198 + 4 * i) 7))) * (f 184 5)) (((f 184 2) - (f (198 + 4 * i) 6)) * (500 : Int32)))), .inl (0 : Int32)] (f, l) _
      refine fl_Tq.cal rfl rfl (fl_bo rfl) rfl ?_
      refine t2_max_q  ?_
      show fl_Tq _ 9 97 [some (.inr (.inr (.inl (66, 198 + 4 * i)))), some (.inl w), some (.inr (.inr (.inl (51, 183)))), some (.inr (.inr (.inl (52, 184)))), some (.inl ((f (198 + 4 * i) 4) + (f (198 + 4 * i) 7))), some (.inl (((f 184 0) - ((f (198 + 4 * i) 4) + (f (198 + 4 * i) 7))) * (f 184 5))), some (.inl (((f 184 2) - (f (198 + 4 * i) 6)) * (500 : Int32))), some (.inl (c2_zoneCurrent_v f (f (198 + 4 * i) 6)))] [.inl (t2_max_v (0 : Int32) (t2_min_v (c2_zoneCurrent_v f (f (198 + 4 * i) 6)) (t2_min_v (((f 184 0) - ((f (198 + 4 * i) 4) + (f (198 + 4 * i) 7))) * (f 184 5)) (((f 184 2) - (f (198 + 4 * i) 6)) * (500 : Int32)))))] (f, l) _
      refine fl_Tq.ret rfl rfl rfl ?_
      unfold c2_ownLimit_v at k
      simp only [if_pos h1, if_neg h2] at k
      exact k
  · refine fl_Tq.zt rfl (fl_bo rfl) (c1_ne_t h1) rfl ?_
    refine fl_Tq.stp (pc' := 22) (lv' := [some (.inr (.inr (.inl (66, 198 + 4 * i)))), some (.inl w), some (.inr (.inr (.inl (51, 183)))), some (.inr (.inr (.inl (52, 184)))), none, none, none, none]) (st' := [.inr (.inr (.inl (66, 198 + 4 * i)))]) (m' := (f, l)) rfl rfl (fl_bo rfl) rfl ?_
    refine fl_Tq.gfV (k := 4) (v := f (198 + 4 * i) 4) rfl (fl_oks_ok ⟨t2_kc2 hi, True.intro⟩) rfl rfl ?_
    refine fl_Tq.stp (pc' := 26) (lv' := [some (.inr (.inr (.inl (66, 198 + 4 * i)))), some (.inl w), some (.inr (.inr (.inl (51, 183)))), some (.inr (.inr (.inl (52, 184)))), none, none, none, none]) (st' := [.inr (.inr (.inl (66, 198 + 4 * i))), .inl (f (198 + 4 * i) 4)]) (m' := (f, l)) rfl rfl (fl_bo rfl) rfl ?_
    refine fl_Tq.gfV (k := 7) (v := f (198 + 4 * i) 7) rfl (fl_oks_ok ⟨t2_kc2 hi, True.intro, True.intro⟩) rfl rfl ?_
    refine fl_Tq.stp (pc' := 30) (lv' := [some (.inr (.inr (.inl (66, 198 + 4 * i)))), some (.inl w), some (.inr (.inr (.inl (51, 183)))), some (.inr (.inr (.inl (52, 184)))), none, none, none, none]) (st' := [.inl ((f (198 + 4 * i) 4) + (f (198 + 4 * i) 7))]) (m' := (f, l)) rfl rfl (fl_bo rfl) rfl ?_
    refine fl_Tq.stp (pc' := 32) (lv' := [some (.inr (.inr (.inl (66, 198 + 4 * i)))), some (.inl w), some (.inr (.inr (.inl (51, 183)))), some (.inr (.inr (.inl (52, 184)))), some (.inl ((f (198 + 4 * i) 4) + (f (198 + 4 * i) 7))), none, none, none]) (st' := []) (m' := (f, l)) rfl rfl (fl_bo rfl) rfl ?_
    refine fl_Tq.stp (pc' := 33) (lv' := [some (.inr (.inr (.inl (66, 198 + 4 * i)))), some (.inl w), some (.inr (.inr (.inl (51, 183)))), some (.inr (.inr (.inl (52, 184)))), some (.inl ((f (198 + 4 * i) 4) + (f (198 + 4 * i) 7))), none, none, none]) (st' := [.inl w]) (m' := (f, l)) rfl rfl (fl_bo rfl) rfl ?_
    refine fl_Tq.zt rfl (fl_bo rfl) (c1_ne_t h1) rfl ?_
    refine fl_Tq.stp (pc' := 47) (lv' := [some (.inr (.inr (.inl (66, 198 + 4 * i)))), some (.inl w), some (.inr (.inr (.inl (51, 183)))), some (.inr (.inr (.inl (52, 184)))), some (.inl ((f (198 + 4 * i) 4) + (f (198 + 4 * i) 7))), none, none, none]) (st' := [.inl ((f (198 + 4 * i) 4) + (f (198 + 4 * i) 7))]) (m' := (f, l)) rfl rfl (fl_bo rfl) rfl ?_
    refine fl_Tq.stp (pc' := 48) (lv' := [some (.inr (.inr (.inl (66, 198 + 4 * i)))), some (.inl w), some (.inr (.inr (.inl (51, 183)))), some (.inr (.inr (.inl (52, 184)))), some (.inl ((f (198 + 4 * i) 4) + (f (198 + 4 * i) 7))), none, none, none]) (st' := [.inr (.inr (.inl (52, 184))), .inl ((f (198 + 4 * i) 4) + (f (198 + 4 * i) 7))]) (m' := (f, l)) rfl rfl (fl_bo rfl) rfl ?_
    refine fl_Tq.cI (c := (1 : Int32)) rfl (by decide +kernel) (fl_bo rfl) ?_
    refine fl_Tq.ldV (p := 184) (τ := 52) (n := 30) (z := (0, 0, 0)) (k := 1) (v := f 184 1) rfl (fl_bo rfl) rfl (by decide +kernel) (by decide) rfl ?_
    refine fl_Tq.stp (pc' := 51) (lv' := [some (.inr (.inr (.inl (66, 198 + 4 * i)))), some (.inl w), some (.inr (.inr (.inl (51, 183)))), some (.inr (.inr (.inl (52, 184)))), some (.inl ((f (198 + 4 * i) 4) + (f (198 + 4 * i) 7))), none, none, none]) (st' := [.inl (((f (198 + 4 * i) 4) + (f (198 + 4 * i) 7)) - (f 184 1))]) (m' := (f, l)) rfl rfl (fl_bo rfl) rfl ?_
    refine fl_Tq.stp (pc' := 52) (lv' := [some (.inr (.inr (.inl (66, 198 + 4 * i)))), some (.inl w), some (.inr (.inr (.inl (51, 183)))), some (.inr (.inr (.inl (52, 184)))), some (.inl ((f (198 + 4 * i) 4) + (f (198 + 4 * i) 7))), none, none, none]) (st' := [.inr (.inr (.inl (52, 184))), .inl (((f (198 + 4 * i) 4) + (f (198 + 4 * i) 7)) - (f 184 1))]) (m' := (f, l)) rfl rfl (fl_bo rfl) rfl ?_
    refine fl_Tq.cI (c := (5 : Int32)) rfl (by decide +kernel) (fl_bo rfl) ?_
    refine fl_Tq.ldV (p := 184) (τ := 52) (n := 30) (z := (0, 0, 0)) (k := 5) (v := f 184 5) rfl (fl_bo rfl) rfl (by decide +kernel) (by decide) rfl ?_
    refine fl_Tq.stp (pc' := 55) (lv' := [some (.inr (.inr (.inl (66, 198 + 4 * i)))), some (.inl w), some (.inr (.inr (.inl (51, 183)))), some (.inr (.inr (.inl (52, 184)))), some (.inl ((f (198 + 4 * i) 4) + (f (198 + 4 * i) 7))), none, none, none]) (st' := [.inl ((((f (198 + 4 * i) 4) + (f (198 + 4 * i) 7)) - (f 184 1)) * (f 184 5))]) (m' := (f, l)) rfl rfl (fl_bo rfl) rfl ?_
    refine fl_Tq.stp (pc' := 57) (lv' := [some (.inr (.inr (.inl (66, 198 + 4 * i)))), some (.inl w), some (.inr (.inr (.inl (51, 183)))), some (.inr (.inr (.inl (52, 184)))), some (.inl ((f (198 + 4 * i) 4) + (f (198 + 4 * i) 7))), some (.inl ((((f (198 + 4 * i) 4) + (f (198 + 4 * i) 7)) - (f 184 1)) * (f 184 5))), none, none]) (st' := []) (m' := (f, l)) rfl rfl (fl_bo rfl) rfl ?_
    refine fl_Tq.stp (pc' := 58) (lv' := [some (.inr (.inr (.inl (66, 198 + 4 * i)))), some (.inl w), some (.inr (.inr (.inl (51, 183)))), some (.inr (.inr (.inl (52, 184)))), some (.inl ((f (198 + 4 * i) 4) + (f (198 + 4 * i) 7))), some (.inl ((((f (198 + 4 * i) 4) + (f (198 + 4 * i) 7)) - (f 184 1)) * (f 184 5))), none, none]) (st' := [.inr (.inr (.inl (52, 184)))]) (m' := (f, l)) rfl rfl (fl_bo rfl) rfl ?_
    refine fl_Tq.cI (c := (2 : Int32)) rfl (by decide +kernel) (fl_bo rfl) ?_
    refine fl_Tq.ldV (p := 184) (τ := 52) (n := 30) (z := (0, 0, 0)) (k := 2) (v := f 184 2) rfl (fl_bo rfl) rfl (by decide +kernel) (by decide) rfl ?_
    refine fl_Tq.stp (pc' := 61) (lv' := [some (.inr (.inr (.inl (66, 198 + 4 * i)))), some (.inl w), some (.inr (.inr (.inl (51, 183)))), some (.inr (.inr (.inl (52, 184)))), some (.inl ((f (198 + 4 * i) 4) + (f (198 + 4 * i) 7))), some (.inl ((((f (198 + 4 * i) 4) + (f (198 + 4 * i) 7)) - (f 184 1)) * (f 184 5))), none, none]) (st' := [.inr (.inr (.inl (66, 198 + 4 * i))), .inl (f 184 2)]) (m' := (f, l)) rfl rfl (fl_bo rfl) rfl ?_
    refine fl_Tq.gfV (k := 6) (v := f (198 + 4 * i) 6) rfl (fl_oks_ok ⟨t2_kc2 hi, True.intro, True.intro⟩) rfl rfl ?_
    refine fl_Tq.stp (pc' := 65) (lv' := [some (.inr (.inr (.inl (66, 198 + 4 * i)))), some (.inl w), some (.inr (.inr (.inl (51, 183)))), some (.inr (.inr (.inl (52, 184)))), some (.inl ((f (198 + 4 * i) 4) + (f (198 + 4 * i) 7))), some (.inl ((((f (198 + 4 * i) 4) + (f (198 + 4 * i) 7)) - (f 184 1)) * (f 184 5))), none, none]) (st' := [.inl ((f 184 2) - (f (198 + 4 * i) 6))]) (m' := (f, l)) rfl rfl (fl_bo rfl) rfl ?_
    refine fl_Tq.cS (c := (500 : Int32)) rfl (by decide +kernel) (fl_bo rfl) ?_
    refine fl_Tq.stp (pc' := 69) (lv' := [some (.inr (.inr (.inl (66, 198 + 4 * i)))), some (.inl w), some (.inr (.inr (.inl (51, 183)))), some (.inr (.inr (.inl (52, 184)))), some (.inl ((f (198 + 4 * i) 4) + (f (198 + 4 * i) 7))), some (.inl ((((f (198 + 4 * i) 4) + (f (198 + 4 * i) 7)) - (f 184 1)) * (f 184 5))), none, none]) (st' := [.inl (((f 184 2) - (f (198 + 4 * i) 6)) * (500 : Int32))]) (m' := (f, l)) rfl rfl (fl_bo rfl) rfl ?_
    refine fl_Tq.stp (pc' := 71) (lv' := [some (.inr (.inr (.inl (66, 198 + 4 * i)))), some (.inl w), some (.inr (.inr (.inl (51, 183)))), some (.inr (.inr (.inl (52, 184)))), some (.inl ((f (198 + 4 * i) 4) + (f (198 + 4 * i) 7))), some (.inl ((((f (198 + 4 * i) 4) + (f (198 + 4 * i) 7)) - (f 184 1)) * (f 184 5))), some (.inl (((f 184 2) - (f (198 + 4 * i) 6)) * (500 : Int32))), none]) (st' := []) (m' := (f, l)) rfl rfl (fl_bo rfl) rfl ?_
    refine fl_Tq.stp (pc' := 72) (lv' := [some (.inr (.inr (.inl (66, 198 + 4 * i)))), some (.inl w), some (.inr (.inr (.inl (51, 183)))), some (.inr (.inr (.inl (52, 184)))), some (.inl ((f (198 + 4 * i) 4) + (f (198 + 4 * i) 7))), some (.inl ((((f (198 + 4 * i) 4) + (f (198 + 4 * i) 7)) - (f 184 1)) * (f 184 5))), some (.inl (((f 184 2) - (f (198 + 4 * i) 6)) * (500 : Int32))), none]) (st' := [.inr (.inr (.inl (51, 183)))]) (m' := (f, l)) rfl rfl (fl_bo rfl) rfl ?_
    refine fl_Tq.stp (pc' := 73) (lv' := [some (.inr (.inr (.inl (66, 198 + 4 * i)))), some (.inl w), some (.inr (.inr (.inl (51, 183)))), some (.inr (.inr (.inl (52, 184)))), some (.inl ((f (198 + 4 * i) 4) + (f (198 + 4 * i) 7))), some (.inl ((((f (198 + 4 * i) 4) + (f (198 + 4 * i) 7)) - (f 184 1)) * (f 184 5))), some (.inl (((f 184 2) - (f (198 + 4 * i) 6)) * (500 : Int32))), none]) (st' := [.inr (.inr (.inl (66, 198 + 4 * i))), .inr (.inr (.inl (51, 183)))]) (m' := (f, l)) rfl rfl (fl_bo rfl) rfl ?_
    refine fl_Tq.gfV (k := 6) (v := f (198 + 4 * i) 6) rfl (fl_oks_ok ⟨t2_kc2 hi, fl_okp (by decide +kernel) (by decide), True.intro⟩) rfl rfl ?_
    refine fl_Tq.cal rfl rfl (fl_bo rfl) rfl ?_
    refine c2_zoneCurrent_q hz ?_
    show fl_Tq _ 9 79 [some (.inr (.inr (.inl (66, 198 + 4 * i)))), some (.inl w), some (.inr (.inr (.inl (51, 183)))), some (.inr (.inr (.inl (52, 184)))), some (.inl ((f (198 + 4 * i) 4) + (f (198 + 4 * i) 7))), some (.inl ((((f (198 + 4 * i) 4) + (f (198 + 4 * i) 7)) - (f 184 1)) * (f 184 5))), some (.inl (((f 184 2) - (f (198 + 4 * i) 6)) * (500 : Int32))), none] [.inl (c2_zoneCurrent_v f (f (198 + 4 * i) 6))] (f, l) _
    refine fl_Tq.stp (pc' := 81) (lv' := [some (.inr (.inr (.inl (66, 198 + 4 * i)))), some (.inl w), some (.inr (.inr (.inl (51, 183)))), some (.inr (.inr (.inl (52, 184)))), some (.inl ((f (198 + 4 * i) 4) + (f (198 + 4 * i) 7))), some (.inl ((((f (198 + 4 * i) 4) + (f (198 + 4 * i) 7)) - (f 184 1)) * (f 184 5))), some (.inl (((f 184 2) - (f (198 + 4 * i) 6)) * (500 : Int32))), some (.inl (c2_zoneCurrent_v f (f (198 + 4 * i) 6)))]) (st' := []) (m' := (f, l)) rfl rfl (fl_bo rfl) rfl ?_
    refine fl_Tq.cI (c := (0 : Int32)) rfl (by decide +kernel) (fl_bo rfl) ?_
    refine fl_Tq.stp (pc' := 84) (lv' := [some (.inr (.inr (.inl (66, 198 + 4 * i)))), some (.inl w), some (.inr (.inr (.inl (51, 183)))), some (.inr (.inr (.inl (52, 184)))), some (.inl ((f (198 + 4 * i) 4) + (f (198 + 4 * i) 7))), some (.inl ((((f (198 + 4 * i) 4) + (f (198 + 4 * i) 7)) - (f 184 1)) * (f 184 5))), some (.inl (((f 184 2) - (f (198 + 4 * i) 6)) * (500 : Int32))), some (.inl (c2_zoneCurrent_v f (f (198 + 4 * i) 6)))]) (st' := [.inl (c2_zoneCurrent_v f (f (198 + 4 * i) 6)), .inl (0 : Int32)]) (m' := (f, l)) rfl rfl (fl_bo rfl) rfl ?_
    refine fl_Tq.stp (pc' := 86) (lv' := [some (.inr (.inr (.inl (66, 198 + 4 * i)))), some (.inl w), some (.inr (.inr (.inl (51, 183)))), some (.inr (.inr (.inl (52, 184)))), some (.inl ((f (198 + 4 * i) 4) + (f (198 + 4 * i) 7))), some (.inl ((((f (198 + 4 * i) 4) + (f (198 + 4 * i) 7)) - (f 184 1)) * (f 184 5))), some (.inl (((f 184 2) - (f (198 + 4 * i) 6)) * (500 : Int32))), some (.inl (c2_zoneCurrent_v f (f (198 + 4 * i) 6)))]) (st' := [.inl ((((f (198 + 4 * i) 4) + (f (198 + 4 * i) 7)) - (f 184 1)) * (f 184 5)), .inl (c2_zoneCurrent_v f (f (198 + 4 * i) 6)), .inl (0 : Int32)]) (m' := (f, l)) rfl rfl (fl_bo rfl) rfl ?_
    refine fl_Tq.stp (pc' := 88) (lv' := [some (.inr (.inr (.inl (66, 198 + 4 * i)))), some (.inl w), some (.inr (.inr (.inl (51, 183)))), some (.inr (.inr (.inl (52, 184)))), some (.inl ((f (198 + 4 * i) 4) + (f (198 + 4 * i) 7))), some (.inl ((((f (198 + 4 * i) 4) + (f (198 + 4 * i) 7)) - (f 184 1)) * (f 184 5))), some (.inl (((f 184 2) - (f (198 + 4 * i) 6)) * (500 : Int32))), some (.inl (c2_zoneCurrent_v f (f (198 + 4 * i) 6)))]) (st' := [.inl (((f 184 2) - (f (198 + 4 * i) 6)) * (500 : Int32)), .inl ((((f (198 + 4 * i) 4) + (f (198 + 4 * i) 7)) - (f 184 1)) * (f 184 5)), .inl (c2_zoneCurrent_v f (f (198 + 4 * i) 6)), .inl (0 : Int32)]) (m' := (f, l)) rfl rfl (fl_bo rfl) rfl ?_
    refine fl_Tq.cal rfl rfl (fl_bo rfl) rfl ?_
    refine t2_min_q  ?_
    show fl_Tq _ 9 91 [some (.inr (.inr (.inl (66, 198 + 4 * i)))), some (.inl w), some (.inr (.inr (.inl (51, 183)))), some (.inr (.inr (.inl (52, 184)))), some (.inl ((f (198 + 4 * i) 4) + (f (198 + 4 * i) 7))), some (.inl ((((f (198 + 4 * i) 4) + (f (198 + 4 * i) 7)) - (f 184 1)) * (f 184 5))), some (.inl (((f 184 2) - (f (198 + 4 * i) 6)) * (500 : Int32))), some (.inl (c2_zoneCurrent_v f (f (198 + 4 * i) 6)))] [.inl (t2_min_v ((((f (198 + 4 * i) 4) + (f (198 + 4 * i) 7)) - (f 184 1)) * (f 184 5)) (((f 184 2) - (f (198 + 4 * i) 6)) * (500 : Int32))), .inl (c2_zoneCurrent_v f (f (198 + 4 * i) 6)), .inl (0 : Int32)] (f, l) _
    refine fl_Tq.cal rfl rfl (fl_bo rfl) rfl ?_
    refine t2_min_q  ?_
    show fl_Tq _ 9 94 [some (.inr (.inr (.inl (66, 198 + 4 * i)))), some (.inl w), some (.inr (.inr (.inl (51, 183)))), some (.inr (.inr (.inl (52, 184)))), some (.inl ((f (198 + 4 * i) 4) + (f (198 + 4 * i) 7))), some (.inl ((((f (198 + 4 * i) 4) + (f (198 + 4 * i) 7)) - (f 184 1)) * (f 184 5))), some (.inl (((f 184 2) - (f (198 + 4 * i) 6)) * (500 : Int32))), some (.inl (c2_zoneCurrent_v f (f (198 + 4 * i) 6)))] [.inl (t2_min_v (c2_zoneCurrent_v f (f (198 + 4 * i) 6)) (t2_min_v ((((f (198 + 4 * i) 4) + (f (198 + 4 * i) 7)) - (f 184 1)) * (f 184 5)) (((f 184 2) - (f (198 + 4 * i) 6)) * (500 : Int32)))), .inl (0 : Int32)] (f, l) _
    refine fl_Tq.cal rfl rfl (fl_bo rfl) rfl ?_
    refine t2_max_q  ?_
    show fl_Tq _ 9 97 [some (.inr (.inr (.inl (66, 198 + 4 * i)))), some (.inl w), some (.inr (.inr (.inl (51, 183)))), some (.inr (.inr (.inl (52, 184)))), some (.inl ((f (198 + 4 * i) 4) + (f (198 + 4 * i) 7))), some (.inl ((((f (198 + 4 * i) 4) + (f (198 + 4 * i) 7)) - (f 184 1)) * (f 184 5))), some (.inl (((f 184 2) - (f (198 + 4 * i) 6)) * (500 : Int32))), some (.inl (c2_zoneCurrent_v f (f (198 + 4 * i) 6)))] [.inl (t2_max_v (0 : Int32) (t2_min_v (c2_zoneCurrent_v f (f (198 + 4 * i) 6)) (t2_min_v ((((f (198 + 4 * i) 4) + (f (198 + 4 * i) 7)) - (f 184 1)) * (f 184 5)) (((f 184 2) - (f (198 + 4 * i) 6)) * (500 : Int32)))))] (f, l) _
    refine fl_Tq.ret rfl rfl rfl ?_
    unfold c2_ownLimit_v at k
    simp only [if_neg h1] at k
    exact k
noncomputable def c0_packAt_a4 (f : t2_F) (x : Int32) : Nat → Int32
  | 0 => (0 : Int32)
  | k4 + 1 => (c0_packAt_a4 f x k4) + (c0_voltsAt_v f k4 x)
noncomputable def c0_packAt_v (f : t2_F) (x : Int32) : Int32 := c0_packAt_a4 f x ((f 1 5).toInt.toNat)
theorem c0_packAt_q {L : Nat} {xs : Nat → Int32} {f : t2_F} {l : t2_L} {Q : Option fl_V → fl_M → Prop} {x : Int32} (hc : 0 ≤ (f 1 5).toInt ∧ (f 1 5).toInt ≤ 16) (k : Q (some (.inl (c0_packAt_v f x))) (f, l)) : fl_Tq (pw_P L xs) 38 0 (fl_args (am_mxl (pw_P L xs) 38) [.inr (.inr (.inl (1, 1))), .inl x]) [] (f, l) Q := by
  refine fl_Tq.cI (c := (0 : Int32)) rfl (by decide +kernel) (fl_bo rfl) ?_
  refine fl_Tq.stp (pc' := 2) (lv' := [some (.inr (.inr (.inl (1, 1)))), some (.inl x), some (.inl (0 : Int32)), none]) (st' := []) (m' := (f, l)) rfl rfl (fl_bo rfl) rfl ?_
  refine fl_Tq.cI (c := (0 : Int32)) rfl (by decide +kernel) (fl_bo rfl) ?_
  refine fl_Tq.stp (pc' := 4) (lv' := [some (.inr (.inr (.inl (1, 1)))), some (.inl x), some (.inl (0 : Int32)), some (.inl (0 : Int32))]) (st' := []) (m' := (f, l)) rfl rfl (fl_bo rfl) rfl ?_
  have hs4 : ∀ k4 : Nat, k4 < (f 1 5).toInt.toNat → fl_Tq (pw_P L xs) 38 4 [some (.inr (.inr (.inl (1, 1)))), some (.inl x), some (.inl (c0_packAt_a4 f x (k4 + 1))), some (.inl (Int32.ofNat (k4 + 1)))] [] (f, l) Q → fl_Tq (pw_P L xs) 38 4 [some (.inr (.inr (.inl (1, 1)))), some (.inl x), some (.inl (c0_packAt_a4 f x k4)), some (.inl (Int32.ofNat k4))] [] (f, l) Q := by
    intro k4 hk4 hS
    refine fl_Tq.stp (pc' := 5) (lv' := [some (.inr (.inr (.inl (1, 1)))), some (.inl x), some (.inl (c0_packAt_a4 f x k4)), some (.inl (Int32.ofNat k4))]) (st' := [.inl (Int32.ofNat k4)]) (m' := (f, l)) rfl rfl (fl_bo rfl) rfl ?_
    refine fl_Tq.stp (pc' := 6) (lv' := [some (.inr (.inr (.inl (1, 1)))), some (.inl x), some (.inl (c0_packAt_a4 f x k4)), some (.inl (Int32.ofNat k4))]) (st' := [.inr (.inr (.inl (1, 1))), .inl (Int32.ofNat k4)]) (m' := (f, l)) rfl rfl (fl_bo rfl) rfl ?_
    refine fl_Tq.gfV (k := 5) (v := f 1 5) rfl (fl_bo rfl) rfl rfl ?_
    refine fl_Tq.jf rfl (fl_bo rfl) (c2_ge_f (t2_lk hk4 (t2_nn hc.1))) rfl ?_
    refine fl_Tq.stp (pc' := 13) (lv' := [some (.inr (.inr (.inl (1, 1)))), some (.inl x), some (.inl (c0_packAt_a4 f x k4)), some (.inl (Int32.ofNat k4))]) (st' := [.inl (c0_packAt_a4 f x k4)]) (m' := (f, l)) rfl rfl (fl_bo rfl) rfl ?_
    refine fl_Tq.stp (pc' := 14) (lv' := [some (.inr (.inr (.inl (1, 1)))), some (.inl x), some (.inl (c0_packAt_a4 f x k4)), some (.inl (Int32.ofNat k4))]) (st' := [.inr (.inr (.inl (1, 1))), .inl (c0_packAt_a4 f x k4)]) (m' := (f, l)) rfl rfl (fl_bo rfl) rfl ?_
    refine fl_Tq.stp (pc' := 17) (lv' := [some (.inr (.inr (.inl (1, 1)))), some (.inl x), some (.inl (c0_packAt_a4 f x k4)), some (.inl (Int32.ofNat k4))]) (st' := [.inr (.inr (.inl (2, 2))), .inl (c0_packAt_a4 f x k4)]) (m' := (f, l)) rfl rfl (fl_bo rfl) rfl ?_
    refine fl_Tq.stp (pc' := 18) (lv' := [some (.inr (.inr (.inl (1, 1)))), some (.inl x), some (.inl (c0_packAt_a4 f x k4)), some (.inl (Int32.ofNat k4))]) (st' := [.inl (Int32.ofNat k4), .inr (.inr (.inl (2, 2))), .inl (c0_packAt_a4 f x k4)]) (m' := (f, l)) rfl rfl (fl_bo rfl) rfl ?_
    refine fl_Tq.qld (p := 2) (τ := 2) (n := 16) (t := 18) (b := 16) (d := 3) (k := k4) rfl (fl_bo rfl) rfl (at_ofN (by omega)) (by omega) ?_
    show fl_Tq _ 38 19 [some (.inr (.inr (.inl (1, 1)))), some (.inl x), some (.inl (c0_packAt_a4 f x k4)), some (.inl (Int32.ofNat k4))] [.inr (.inr (.inl (18, 18 + 4 * k4))), .inl (c0_packAt_a4 f x k4)] (f, l) _
    refine fl_Tq.stp (pc' := 20) (lv' := [some (.inr (.inr (.inl (1, 1)))), some (.inl x), some (.inl (c0_packAt_a4 f x k4)), some (.inl (Int32.ofNat k4))]) (st' := [.inl x, .inr (.inr (.inl (18, 18 + 4 * k4))), .inl (c0_packAt_a4 f x k4)]) (m' := (f, l)) rfl rfl (fl_oks_ok ⟨(t2_kc0 (by omega)), True.intro, True.intro⟩) rfl ?_
    refine fl_Tq.cal rfl rfl (fl_oks_ok ⟨True.intro, (t2_kc0 (by omega)), True.intro, True.intro⟩) rfl ?_
    refine c0_voltsAt_q (by omega) ?_
    show fl_Tq _ 38 23 [some (.inr (.inr (.inl (1, 1)))), some (.inl x), some (.inl (c0_packAt_a4 f x k4)), some (.inl (Int32.ofNat k4))] [.inl (c0_voltsAt_v f k4 x), .inl (c0_packAt_a4 f x k4)] (f, l) _
    refine fl_Tq.stp (pc' := 24) (lv' := [some (.inr (.inr (.inl (1, 1)))), some (.inl x), some (.inl (c0_packAt_a4 f x k4)), some (.inl (Int32.ofNat k4))]) (st' := [.inl ((c0_packAt_a4 f x k4) + (c0_voltsAt_v f k4 x))]) (m' := (f, l)) rfl rfl (fl_bo rfl) rfl ?_
    refine fl_Tq.stp (pc' := 25) (lv' := [some (.inr (.inr (.inl (1, 1)))), some (.inl x), some (.inl ((c0_packAt_a4 f x k4) + (c0_voltsAt_v f k4 x))), some (.inl (Int32.ofNat k4))]) (st' := []) (m' := (f, l)) rfl rfl (fl_bo rfl) rfl ?_
    refine fl_Tq.stp (pc' := 28) (lv' := [some (.inr (.inr (.inl (1, 1)))), some (.inl x), some (.inl ((c0_packAt_a4 f x k4) + (c0_voltsAt_v f k4 x))), some (.inl ((Int32.ofNat k4) + (1 : Int32)))]) (st' := []) (m' := (f, l)) rfl rfl (fl_bo rfl) rfl ?_
    refine fl_Tq.stp (pc' := 4) (lv' := [some (.inr (.inr (.inl (1, 1)))), some (.inl x), some (.inl ((c0_packAt_a4 f x k4) + (c0_voltsAt_v f k4 x))), some (.inl ((Int32.ofNat k4) + (1 : Int32)))]) (st' := []) (m' := (f, l)) rfl rfl (fl_bo rfl) rfl ?_
    have ea : c0_packAt_a4 f x (k4 + 1) = (c0_packAt_a4 f x k4) + (c0_voltsAt_v f k4 x) := by
      show ((c0_packAt_a4 f x k4) + (c0_voltsAt_v f k4 x)) = _
      rfl
    rw [ea, ← t2_k1] at hS
    exact hS
  refine t2_for (S := fun k4 => fl_Tq (pw_P L xs) 38 4 [some (.inr (.inr (.inl (1, 1)))), some (.inl x), some (.inl (c0_packAt_a4 f x k4)), some (.inl (Int32.ofNat k4))] [] (f, l) Q) hs4 ?_
  show fl_Tq (pw_P L xs) 38 4 [some (.inr (.inr (.inl (1, 1)))), some (.inl x), some (.inl (c0_packAt_a4 f x ((f 1 5).toInt.toNat))), some (.inl (Int32.ofNat ((f 1 5).toInt.toNat)))] [] (f, l) _
  refine fl_Tq.stp (pc' := 5) (lv' := [some (.inr (.inr (.inl (1, 1)))), some (.inl x), some (.inl (c0_packAt_a4 f x ((f 1 5).toInt.toNat))), some (.inl (Int32.ofNat ((f 1 5).toInt.toNat)))]) (st' := [.inl (Int32.ofNat ((f 1 5).toInt.toNat))]) (m' := (f, l)) rfl rfl (fl_bo rfl) rfl ?_
  refine fl_Tq.stp (pc' := 6) (lv' := [some (.inr (.inr (.inl (1, 1)))), some (.inl x), some (.inl (c0_packAt_a4 f x ((f 1 5).toInt.toNat))), some (.inl (Int32.ofNat ((f 1 5).toInt.toNat)))]) (st' := [.inr (.inr (.inl (1, 1))), .inl (Int32.ofNat ((f 1 5).toInt.toNat))]) (m' := (f, l)) rfl rfl (fl_bo rfl) rfl ?_
  refine fl_Tq.gfV (k := 5) (v := f 1 5) rfl (fl_bo rfl) rfl rfl ?_
  refine fl_Tq.jt rfl (fl_bo rfl) (c2_ge_t (t2_ln (t2_nn hc.1))) rfl ?_
  refine fl_Tq.stp (pc' := 32) (lv' := [some (.inr (.inr (.inl (1, 1)))), some (.inl x), some (.inl (c0_packAt_a4 f x ((f 1 5).toInt.toNat))), some (.inl (Int32.ofNat ((f 1 5).toInt.toNat)))]) (st' := [.inl (c0_packAt_a4 f x ((f 1 5).toInt.toNat))]) (m' := (f, l)) rfl rfl (fl_bo rfl) rfl ?_
  exact fl_Tq.ret rfl rfl rfl k
noncomputable def c0_leastPart_a6 (f : t2_F) : Nat → Int32
  | 0 => (1000 : Int32)
  | k6 + 1 => t2_min_v (c0_leastPart_a6 f k6) (f (18 + 4 * k6) 3)
noncomputable def c0_leastPart_v (f : t2_F) : Int32 := c0_leastPart_a6 f ((f 1 5).toInt.toNat)
theorem c0_leastPart_q {L : Nat} {xs : Nat → Int32} {f : t2_F} {l : t2_L} {Q : Option fl_V → fl_M → Prop}  (hc : 0 ≤ (f 1 5).toInt ∧ (f 1 5).toInt ≤ 16) (k : Q (some (.inl (c0_leastPart_v f))) (f, l)) : fl_Tq (pw_P L xs) 39 0 (fl_args (am_mxl (pw_P L xs) 39) [.inr (.inr (.inl (1, 1)))]) [] (f, l) Q := by
  refine fl_Tq.cS (c := (1000 : Int32)) rfl (by decide +kernel) (fl_bo rfl) ?_
  refine fl_Tq.stp (pc' := 4) (lv' := [some (.inr (.inr (.inl (1, 1)))), some (.inl (1000 : Int32)), none]) (st' := []) (m' := (f, l)) rfl rfl (fl_bo rfl) rfl ?_
  refine fl_Tq.cI (c := (0 : Int32)) rfl (by decide +kernel) (fl_bo rfl) ?_
  refine fl_Tq.stp (pc' := 6) (lv' := [some (.inr (.inr (.inl (1, 1)))), some (.inl (1000 : Int32)), some (.inl (0 : Int32))]) (st' := []) (m' := (f, l)) rfl rfl (fl_bo rfl) rfl ?_
  have hs6 : ∀ k6 : Nat, k6 < (f 1 5).toInt.toNat → fl_Tq (pw_P L xs) 39 6 [some (.inr (.inr (.inl (1, 1)))), some (.inl (c0_leastPart_a6 f (k6 + 1))), some (.inl (Int32.ofNat (k6 + 1)))] [] (f, l) Q → fl_Tq (pw_P L xs) 39 6 [some (.inr (.inr (.inl (1, 1)))), some (.inl (c0_leastPart_a6 f k6)), some (.inl (Int32.ofNat k6))] [] (f, l) Q := by
    intro k6 hk6 hS
    refine fl_Tq.stp (pc' := 7) (lv' := [some (.inr (.inr (.inl (1, 1)))), some (.inl (c0_leastPart_a6 f k6)), some (.inl (Int32.ofNat k6))]) (st' := [.inl (Int32.ofNat k6)]) (m' := (f, l)) rfl rfl (fl_bo rfl) rfl ?_
    refine fl_Tq.stp (pc' := 8) (lv' := [some (.inr (.inr (.inl (1, 1)))), some (.inl (c0_leastPart_a6 f k6)), some (.inl (Int32.ofNat k6))]) (st' := [.inr (.inr (.inl (1, 1))), .inl (Int32.ofNat k6)]) (m' := (f, l)) rfl rfl (fl_bo rfl) rfl ?_
    refine fl_Tq.gfV (k := 5) (v := f 1 5) rfl (fl_bo rfl) rfl rfl ?_
    refine fl_Tq.jf rfl (fl_bo rfl) (c2_ge_f (t2_lk hk6 (t2_nn hc.1))) rfl ?_
    refine fl_Tq.stp (pc' := 15) (lv' := [some (.inr (.inr (.inl (1, 1)))), some (.inl (c0_leastPart_a6 f k6)), some (.inl (Int32.ofNat k6))]) (st' := [.inl (c0_leastPart_a6 f k6)]) (m' := (f, l)) rfl rfl (fl_bo rfl) rfl ?_
    refine fl_Tq.stp (pc' := 16) (lv' := [some (.inr (.inr (.inl (1, 1)))), some (.inl (c0_leastPart_a6 f k6)), some (.inl (Int32.ofNat k6))]) (st' := [.inr (.inr (.inl (1, 1))), .inl (c0_leastPart_a6 f k6)]) (m' := (f, l)) rfl rfl (fl_bo rfl) rfl ?_
    refine fl_Tq.stp (pc' := 19) (lv' := [some (.inr (.inr (.inl (1, 1)))), some (.inl (c0_leastPart_a6 f k6)), some (.inl (Int32.ofNat k6))]) (st' := [.inr (.inr (.inl (2, 2))), .inl (c0_leastPart_a6 f k6)]) (m' := (f, l)) rfl rfl (fl_bo rfl) rfl ?_
    refine fl_Tq.stp (pc' := 20) (lv' := [some (.inr (.inr (.inl (1, 1)))), some (.inl (c0_leastPart_a6 f k6)), some (.inl (Int32.ofNat k6))]) (st' := [.inl (Int32.ofNat k6), .inr (.inr (.inl (2, 2))), .inl (c0_leastPart_a6 f k6)]) (m' := (f, l)) rfl rfl (fl_bo rfl) rfl ?_
    refine fl_Tq.qld (p := 2) (τ := 2) (n := 16) (t := 18) (b := 16) (d := 3) (k := k6) rfl (fl_bo rfl) rfl (at_ofN (by omega)) (by omega) ?_
    show fl_Tq _ 39 21 [some (.inr (.inr (.inl (1, 1)))), some (.inl (c0_leastPart_a6 f k6)), some (.inl (Int32.ofNat k6))] [.inr (.inr (.inl (18, 18 + 4 * k6))), .inl (c0_leastPart_a6 f k6)] (f, l) _
    refine fl_Tq.gfV (k := 3) (v := f (18 + 4 * k6) 3) rfl (fl_oks_ok ⟨(t2_kc0 (by omega)), True.intro, True.intro⟩) rfl rfl ?_
    refine fl_Tq.cal rfl rfl (fl_bo rfl) rfl ?_
    refine t2_min_q  ?_
    show fl_Tq _ 39 27 [some (.inr (.inr (.inl (1, 1)))), some (.inl (c0_leastPart_a6 f k6)), some (.inl (Int32.ofNat k6))] [.inl (t2_min_v (c0_leastPart_a6 f k6) (f (18 + 4 * k6) 3))] (f, l) _
    refine fl_Tq.stp (pc' := 28) (lv' := [some (.inr (.inr (.inl (1, 1)))), some (.inl (t2_min_v (c0_leastPart_a6 f k6) (f (18 + 4 * k6) 3))), some (.inl (Int32.ofNat k6))]) (st' := []) (m' := (f, l)) rfl rfl (fl_bo rfl) rfl ?_
    refine fl_Tq.stp (pc' := 31) (lv' := [some (.inr (.inr (.inl (1, 1)))), some (.inl (t2_min_v (c0_leastPart_a6 f k6) (f (18 + 4 * k6) 3))), some (.inl ((Int32.ofNat k6) + (1 : Int32)))]) (st' := []) (m' := (f, l)) rfl rfl (fl_bo rfl) rfl ?_
    refine fl_Tq.stp (pc' := 6) (lv' := [some (.inr (.inr (.inl (1, 1)))), some (.inl (t2_min_v (c0_leastPart_a6 f k6) (f (18 + 4 * k6) 3))), some (.inl ((Int32.ofNat k6) + (1 : Int32)))]) (st' := []) (m' := (f, l)) rfl rfl (fl_bo rfl) rfl ?_
    have ea : c0_leastPart_a6 f (k6 + 1) = t2_min_v (c0_leastPart_a6 f k6) (f (18 + 4 * k6) 3) := by
      show (t2_min_v (c0_leastPart_a6 f k6) (f (18 + 4 * k6) 3)) = _
      rfl
    rw [ea, ← t2_k1] at hS
    exact hS
  refine t2_for (S := fun k6 => fl_Tq (pw_P L xs) 39 6 [some (.inr (.inr (.inl (1, 1)))), some (.inl (c0_leastPart_a6 f k6)), some (.inl (Int32.ofNat k6))] [] (f, l) Q) hs6 ?_
  show fl_Tq (pw_P L xs) 39 6 [some (.inr (.inr (.inl (1, 1)))), some (.inl (c0_leastPart_a6 f ((f 1 5).toInt.toNat))), some (.inl (Int32.ofNat ((f 1 5).toInt.toNat)))] [] (f, l) _
  refine fl_Tq.stp (pc' := 7) (lv' := [some (.inr (.inr (.inl (1, 1)))), some (.inl (c0_leastPart_a6 f ((f 1 5).toInt.toNat))), some (.inl (Int32.ofNat ((f 1 5).toInt.toNat)))]) (st' := [.inl (Int32.ofNat ((f 1 5).toInt.toNat))]) (m' := (f, l)) rfl rfl (fl_bo rfl) rfl ?_
  refine fl_Tq.stp (pc' := 8) (lv' := [some (.inr (.inr (.inl (1, 1)))), some (.inl (c0_leastPart_a6 f ((f 1 5).toInt.toNat))), some (.inl (Int32.ofNat ((f 1 5).toInt.toNat)))]) (st' := [.inr (.inr (.inl (1, 1))), .inl (Int32.ofNat ((f 1 5).toInt.toNat))]) (m' := (f, l)) rfl rfl (fl_bo rfl) rfl ?_
  refine fl_Tq.gfV (k := 5) (v := f 1 5) rfl (fl_bo rfl) rfl rfl ?_
  refine fl_Tq.jt rfl (fl_bo rfl) (c2_ge_t (t2_ln (t2_nn hc.1))) rfl ?_
  refine fl_Tq.stp (pc' := 35) (lv' := [some (.inr (.inr (.inl (1, 1)))), some (.inl (c0_leastPart_a6 f ((f 1 5).toInt.toNat))), some (.inl (Int32.ofNat ((f 1 5).toInt.toNat)))]) (st' := [.inl (c0_leastPart_a6 f ((f 1 5).toInt.toNat))]) (m' := (f, l)) rfl rfl (fl_bo rfl) rfl ?_
  exact fl_Tq.ret rfl rfl rfl k
noncomputable def c0_allCharge_a4 (f : t2_F) : Nat → Int64
  | 0 => (0 : Int64)
  | k4 + 1 => (c0_allCharge_a4 f k4) + ((f (18 + 4 * k4) 2).toInt64)
noncomputable def c0_allCharge_v (f : t2_F) : Int64 := c0_allCharge_a4 f ((f 1 5).toInt.toNat)
theorem c0_allCharge_q {L : Nat} {xs : Nat → Int32} {f : t2_F} {l : t2_L} {Q : Option fl_V → fl_M → Prop}  (hc : 0 ≤ (f 1 5).toInt ∧ (f 1 5).toInt ≤ 16) (k : Q (some (.inr (.inl (c0_allCharge_v f)))) (f, l)) : fl_Tq (pw_P L xs) 42 0 (fl_args (am_mxl (pw_P L xs) 42) [.inr (.inr (.inl (1, 1)))]) [] (f, l) Q := by
  refine fl_Tq.stp (pc' := 1) (lv' := [some (.inr (.inr (.inl (1, 1)))), none, none, none]) (st' := [.inr (.inl (0 : Int64))]) (m' := (f, l)) rfl rfl (fl_bo rfl) rfl ?_
  refine fl_Tq.stp (pc' := 2) (lv' := [some (.inr (.inr (.inl (1, 1)))), some (.inr (.inl (0 : Int64))), none, none]) (st' := []) (m' := (f, l)) rfl rfl (fl_bo rfl) rfl ?_
  refine fl_Tq.cI (c := (0 : Int32)) rfl (by decide +kernel) (fl_bo rfl) ?_
  refine fl_Tq.stp (pc' := 4) (lv' := [some (.inr (.inr (.inl (1, 1)))), some (.inr (.inl (0 : Int64))), none, some (.inl (0 : Int32))]) (st' := []) (m' := (f, l)) rfl rfl (fl_bo rfl) rfl ?_
  have hs4 : ∀ k4 : Nat, k4 < (f 1 5).toInt.toNat → fl_Tq (pw_P L xs) 42 4 [some (.inr (.inr (.inl (1, 1)))), some (.inr (.inl (c0_allCharge_a4 f (k4 + 1)))), none, some (.inl (Int32.ofNat (k4 + 1)))] [] (f, l) Q → fl_Tq (pw_P L xs) 42 4 [some (.inr (.inr (.inl (1, 1)))), some (.inr (.inl (c0_allCharge_a4 f k4))), none, some (.inl (Int32.ofNat k4))] [] (f, l) Q := by
    intro k4 hk4 hS
    refine fl_Tq.stp (pc' := 5) (lv' := [some (.inr (.inr (.inl (1, 1)))), some (.inr (.inl (c0_allCharge_a4 f k4))), none, some (.inl (Int32.ofNat k4))]) (st' := [.inl (Int32.ofNat k4)]) (m' := (f, l)) rfl rfl (fl_bo rfl) rfl ?_
    refine fl_Tq.stp (pc' := 6) (lv' := [some (.inr (.inr (.inl (1, 1)))), some (.inr (.inl (c0_allCharge_a4 f k4))), none, some (.inl (Int32.ofNat k4))]) (st' := [.inr (.inr (.inl (1, 1))), .inl (Int32.ofNat k4)]) (m' := (f, l)) rfl rfl (fl_bo rfl) rfl ?_
    refine fl_Tq.gfV (k := 5) (v := f 1 5) rfl (fl_bo rfl) rfl rfl ?_
    refine fl_Tq.jf rfl (fl_bo rfl) (c2_ge_f (t2_lk hk4 (t2_nn hc.1))) rfl ?_
    refine fl_Tq.stp (pc' := 13) (lv' := [some (.inr (.inr (.inl (1, 1)))), some (.inr (.inl (c0_allCharge_a4 f k4))), none, some (.inl (Int32.ofNat k4))]) (st' := [.inr (.inl (c0_allCharge_a4 f k4))]) (m' := (f, l)) rfl rfl (fl_bo rfl) rfl ?_
    refine fl_Tq.stp (pc' := 14) (lv' := [some (.inr (.inr (.inl (1, 1)))), some (.inr (.inl (c0_allCharge_a4 f k4))), none, some (.inl (Int32.ofNat k4))]) (st' := [.inr (.inr (.inl (1, 1))), .inr (.inl (c0_allCharge_a4 f k4))]) (m' := (f, l)) rfl rfl (fl_bo rfl) rfl ?_
    refine fl_Tq.stp (pc' := 17) (lv' := [some (.inr (.inr (.inl (1, 1)))), some (.inr (.inl (c0_allCharge_a4 f k4))), none, some (.inl (Int32.ofNat k4))]) (st' := [.inr (.inr (.inl (2, 2))), .inr (.inl (c0_allCharge_a4 f k4))]) (m' := (f, l)) rfl rfl (fl_bo rfl) rfl ?_
    refine fl_Tq.stp (pc' := 18) (lv' := [some (.inr (.inr (.inl (1, 1)))), some (.inr (.inl (c0_allCharge_a4 f k4))), none, some (.inl (Int32.ofNat k4))]) (st' := [.inl (Int32.ofNat k4), .inr (.inr (.inl (2, 2))), .inr (.inl (c0_allCharge_a4 f k4))]) (m' := (f, l)) rfl rfl (fl_bo rfl) rfl ?_
    refine fl_Tq.qld (p := 2) (τ := 2) (n := 16) (t := 18) (b := 16) (d := 3) (k := k4) rfl (fl_bo rfl) rfl (at_ofN (by omega)) (by omega) ?_
    show fl_Tq _ 42 19 [some (.inr (.inr (.inl (1, 1)))), some (.inr (.inl (c0_allCharge_a4 f k4))), none, some (.inl (Int32.ofNat k4))] [.inr (.inr (.inl (18, 18 + 4 * k4))), .inr (.inl (c0_allCharge_a4 f k4))] (f, l) _
    refine fl_Tq.gfV (k := 2) (v := f (18 + 4 * k4) 2) rfl (fl_oks_ok ⟨(t2_kc0 (by omega)), True.intro, True.intro⟩) rfl rfl ?_
    refine fl_Tq.stp (pc' := 23) (lv' := [some (.inr (.inr (.inl (1, 1)))), some (.inr (.inl (c0_allCharge_a4 f k4))), none, some (.inl (Int32.ofNat k4))]) (st' := [.inr (.inl ((f (18 + 4 * k4) 2).toInt64)), .inr (.inl (c0_allCharge_a4 f k4))]) (m' := (f, l)) rfl rfl (fl_bo rfl) rfl ?_
    refine fl_Tq.stp (pc' := 24) (lv' := [some (.inr (.inr (.inl (1, 1)))), some (.inr (.inl (c0_allCharge_a4 f k4))), none, some (.inl (Int32.ofNat k4))]) (st' := [.inr (.inl ((c0_allCharge_a4 f k4) + ((f (18 + 4 * k4) 2).toInt64)))]) (m' := (f, l)) rfl rfl (fl_bo rfl) rfl ?_
    refine fl_Tq.stp (pc' := 25) (lv' := [some (.inr (.inr (.inl (1, 1)))), some (.inr (.inl ((c0_allCharge_a4 f k4) + ((f (18 + 4 * k4) 2).toInt64)))), none, some (.inl (Int32.ofNat k4))]) (st' := []) (m' := (f, l)) rfl rfl (fl_bo rfl) rfl ?_
    refine fl_Tq.stp (pc' := 28) (lv' := [some (.inr (.inr (.inl (1, 1)))), some (.inr (.inl ((c0_allCharge_a4 f k4) + ((f (18 + 4 * k4) 2).toInt64)))), none, some (.inl ((Int32.ofNat k4) + (1 : Int32)))]) (st' := []) (m' := (f, l)) rfl rfl (fl_bo rfl) rfl ?_
    refine fl_Tq.stp (pc' := 4) (lv' := [some (.inr (.inr (.inl (1, 1)))), some (.inr (.inl ((c0_allCharge_a4 f k4) + ((f (18 + 4 * k4) 2).toInt64)))), none, some (.inl ((Int32.ofNat k4) + (1 : Int32)))]) (st' := []) (m' := (f, l)) rfl rfl (fl_bo rfl) rfl ?_
    have ea : c0_allCharge_a4 f (k4 + 1) = (c0_allCharge_a4 f k4) + ((f (18 + 4 * k4) 2).toInt64) := by
      show ((c0_allCharge_a4 f k4) + ((f (18 + 4 * k4) 2).toInt64)) = _
      rfl
    rw [ea, ← t2_k1] at hS
    exact hS
  refine t2_for (S := fun k4 => fl_Tq (pw_P L xs) 42 4 [some (.inr (.inr (.inl (1, 1)))), some (.inr (.inl (c0_allCharge_a4 f k4))), none, some (.inl (Int32.ofNat k4))] [] (f, l) Q) hs4 ?_
  show fl_Tq (pw_P L xs) 42 4 [some (.inr (.inr (.inl (1, 1)))), some (.inr (.inl (c0_allCharge_a4 f ((f 1 5).toInt.toNat)))), none, some (.inl (Int32.ofNat ((f 1 5).toInt.toNat)))] [] (f, l) _
  refine fl_Tq.stp (pc' := 5) (lv' := [some (.inr (.inr (.inl (1, 1)))), some (.inr (.inl (c0_allCharge_a4 f ((f 1 5).toInt.toNat)))), none, some (.inl (Int32.ofNat ((f 1 5).toInt.toNat)))]) (st' := [.inl (Int32.ofNat ((f 1 5).toInt.toNat))]) (m' := (f, l)) rfl rfl (fl_bo rfl) rfl ?_
  refine fl_Tq.stp (pc' := 6) (lv' := [some (.inr (.inr (.inl (1, 1)))), some (.inr (.inl (c0_allCharge_a4 f ((f 1 5).toInt.toNat)))), none, some (.inl (Int32.ofNat ((f 1 5).toInt.toNat)))]) (st' := [.inr (.inr (.inl (1, 1))), .inl (Int32.ofNat ((f 1 5).toInt.toNat))]) (m' := (f, l)) rfl rfl (fl_bo rfl) rfl ?_
  refine fl_Tq.gfV (k := 5) (v := f 1 5) rfl (fl_bo rfl) rfl rfl ?_
  refine fl_Tq.jt rfl (fl_bo rfl) (c2_ge_t (t2_ln (t2_nn hc.1))) rfl ?_
  refine fl_Tq.stp (pc' := 32) (lv' := [some (.inr (.inr (.inl (1, 1)))), some (.inr (.inl (c0_allCharge_a4 f ((f 1 5).toInt.toNat)))), none, some (.inl (Int32.ofNat ((f 1 5).toInt.toNat)))]) (st' := [.inr (.inl (c0_allCharge_a4 f ((f 1 5).toInt.toNat)))]) (m' := (f, l)) rfl rfl (fl_bo rfl) rfl ?_
  exact fl_Tq.ret rfl rfl rfl k
noncomputable def c0_allFull_a4 (f : t2_F) : Nat → Int64
  | 0 => (0 : Int64)
  | k4 + 1 => (c0_allFull_a4 f k4) + (((f (18 + 4 * k4) 0) * (3600 : Int32)).toInt64)
noncomputable def c0_allFull_v (f : t2_F) : Int64 := c0_allFull_a4 f ((f 1 5).toInt.toNat)
theorem c0_allFull_q {L : Nat} {xs : Nat → Int32} {f : t2_F} {l : t2_L} {Q : Option fl_V → fl_M → Prop}  (hc : 0 ≤ (f 1 5).toInt ∧ (f 1 5).toInt ≤ 16) (k : Q (some (.inr (.inl (c0_allFull_v f)))) (f, l)) : fl_Tq (pw_P L xs) 43 0 (fl_args (am_mxl (pw_P L xs) 43) [.inr (.inr (.inl (1, 1)))]) [] (f, l) Q := by
  refine fl_Tq.stp (pc' := 1) (lv' := [some (.inr (.inr (.inl (1, 1)))), none, none, none]) (st' := [.inr (.inl (0 : Int64))]) (m' := (f, l)) rfl rfl (fl_bo rfl) rfl ?_
  refine fl_Tq.stp (pc' := 2) (lv' := [some (.inr (.inr (.inl (1, 1)))), some (.inr (.inl (0 : Int64))), none, none]) (st' := []) (m' := (f, l)) rfl rfl (fl_bo rfl) rfl ?_
  refine fl_Tq.cI (c := (0 : Int32)) rfl (by decide +kernel) (fl_bo rfl) ?_
  refine fl_Tq.stp (pc' := 4) (lv' := [some (.inr (.inr (.inl (1, 1)))), some (.inr (.inl (0 : Int64))), none, some (.inl (0 : Int32))]) (st' := []) (m' := (f, l)) rfl rfl (fl_bo rfl) rfl ?_
  have hs4 : ∀ k4 : Nat, k4 < (f 1 5).toInt.toNat → fl_Tq (pw_P L xs) 43 4 [some (.inr (.inr (.inl (1, 1)))), some (.inr (.inl (c0_allFull_a4 f (k4 + 1)))), none, some (.inl (Int32.ofNat (k4 + 1)))] [] (f, l) Q → fl_Tq (pw_P L xs) 43 4 [some (.inr (.inr (.inl (1, 1)))), some (.inr (.inl (c0_allFull_a4 f k4))), none, some (.inl (Int32.ofNat k4))] [] (f, l) Q := by
    intro k4 hk4 hS
    refine fl_Tq.stp (pc' := 5) (lv' := [some (.inr (.inr (.inl (1, 1)))), some (.inr (.inl (c0_allFull_a4 f k4))), none, some (.inl (Int32.ofNat k4))]) (st' := [.inl (Int32.ofNat k4)]) (m' := (f, l)) rfl rfl (fl_bo rfl) rfl ?_
    refine fl_Tq.stp (pc' := 6) (lv' := [some (.inr (.inr (.inl (1, 1)))), some (.inr (.inl (c0_allFull_a4 f k4))), none, some (.inl (Int32.ofNat k4))]) (st' := [.inr (.inr (.inl (1, 1))), .inl (Int32.ofNat k4)]) (m' := (f, l)) rfl rfl (fl_bo rfl) rfl ?_
    refine fl_Tq.gfV (k := 5) (v := f 1 5) rfl (fl_bo rfl) rfl rfl ?_
    refine fl_Tq.jf rfl (fl_bo rfl) (c2_ge_f (t2_lk hk4 (t2_nn hc.1))) rfl ?_
    refine fl_Tq.stp (pc' := 13) (lv' := [some (.inr (.inr (.inl (1, 1)))), some (.inr (.inl (c0_allFull_a4 f k4))), none, some (.inl (Int32.ofNat k4))]) (st' := [.inr (.inl (c0_allFull_a4 f k4))]) (m' := (f, l)) rfl rfl (fl_bo rfl) rfl ?_
    refine fl_Tq.stp (pc' := 14) (lv' := [some (.inr (.inr (.inl (1, 1)))), some (.inr (.inl (c0_allFull_a4 f k4))), none, some (.inl (Int32.ofNat k4))]) (st' := [.inr (.inr (.inl (1, 1))), .inr (.inl (c0_allFull_a4 f k4))]) (m' := (f, l)) rfl rfl (fl_bo rfl) rfl ?_
    refine fl_Tq.stp (pc' := 17) (lv' := [some (.inr (.inr (.inl (1, 1)))), some (.inr (.inl (c0_allFull_a4 f k4))), none, some (.inl (Int32.ofNat k4))]) (st' := [.inr (.inr (.inl (2, 2))), .inr (.inl (c0_allFull_a4 f k4))]) (m' := (f, l)) rfl rfl (fl_bo rfl) rfl ?_
    refine fl_Tq.stp (pc' := 18) (lv' := [some (.inr (.inr (.inl (1, 1)))), some (.inr (.inl (c0_allFull_a4 f k4))), none, some (.inl (Int32.ofNat k4))]) (st' := [.inl (Int32.ofNat k4), .inr (.inr (.inl (2, 2))), .inr (.inl (c0_allFull_a4 f k4))]) (m' := (f, l)) rfl rfl (fl_bo rfl) rfl ?_
    refine fl_Tq.qld (p := 2) (τ := 2) (n := 16) (t := 18) (b := 16) (d := 3) (k := k4) rfl (fl_bo rfl) rfl (at_ofN (by omega)) (by omega) ?_
    show fl_Tq _ 43 19 [some (.inr (.inr (.inl (1, 1)))), some (.inr (.inl (c0_allFull_a4 f k4))), none, some (.inl (Int32.ofNat k4))] [.inr (.inr (.inl (18, 18 + 4 * k4))), .inr (.inl (c0_allFull_a4 f k4))] (f, l) _
    refine fl_Tq.cal rfl rfl (fl_oks_ok ⟨(t2_kc0 (by omega)), True.intro, True.intro⟩) rfl ?_
    refine fl_Tq.stp (pc' := 1) (lv' := [some (.inr (.inr (.inl (18, 18 + 4 * k4))))]) (st' := [.inr (.inr (.inl (18, 18 + 4 * k4)))]) (m' := (f, l)) rfl rfl (fl_bo rfl) rfl ?_
    refine fl_Tq.gfV (k := 0) (v := f (18 + 4 * k4) 0) rfl (fl_oks_ok ⟨(t2_kc0 (by omega)), True.intro⟩) rfl rfl ?_
    refine fl_Tq.cS (c := (3600 : Int32)) rfl (by decide +kernel) (fl_bo rfl) ?_
    refine fl_Tq.stp (pc' := 8) (lv' := [some (.inr (.inr (.inl (18, 18 + 4 * k4))))]) (st' := [.inl ((f (18 + 4 * k4) 0) * (3600 : Int32))]) (m' := (f, l)) rfl rfl (fl_bo rfl) rfl ?_
    refine fl_Tq.ret rfl rfl rfl ?_
    show fl_Tq _ 43 22 [some (.inr (.inr (.inl (1, 1)))), some (.inr (.inl (c0_allFull_a4 f k4))), none, some (.inl (Int32.ofNat k4))] [.inl ((f (18 + 4 * k4) 0) * (3600 : Int32)), .inr (.inl (c0_allFull_a4 f k4))] (f, l) _
    refine fl_Tq.stp (pc' := 23) (lv' := [some (.inr (.inr (.inl (1, 1)))), some (.inr (.inl (c0_allFull_a4 f k4))), none, some (.inl (Int32.ofNat k4))]) (st' := [.inr (.inl (((f (18 + 4 * k4) 0) * (3600 : Int32)).toInt64)), .inr (.inl (c0_allFull_a4 f k4))]) (m' := (f, l)) rfl rfl (fl_bo rfl) rfl ?_
    refine fl_Tq.stp (pc' := 24) (lv' := [some (.inr (.inr (.inl (1, 1)))), some (.inr (.inl (c0_allFull_a4 f k4))), none, some (.inl (Int32.ofNat k4))]) (st' := [.inr (.inl ((c0_allFull_a4 f k4) + (((f (18 + 4 * k4) 0) * (3600 : Int32)).toInt64)))]) (m' := (f, l)) rfl rfl (fl_bo rfl) rfl ?_
    refine fl_Tq.stp (pc' := 25) (lv' := [some (.inr (.inr (.inl (1, 1)))), some (.inr (.inl ((c0_allFull_a4 f k4) + (((f (18 + 4 * k4) 0) * (3600 : Int32)).toInt64)))), none, some (.inl (Int32.ofNat k4))]) (st' := []) (m' := (f, l)) rfl rfl (fl_bo rfl) rfl ?_
    refine fl_Tq.stp (pc' := 28) (lv' := [some (.inr (.inr (.inl (1, 1)))), some (.inr (.inl ((c0_allFull_a4 f k4) + (((f (18 + 4 * k4) 0) * (3600 : Int32)).toInt64)))), none, some (.inl ((Int32.ofNat k4) + (1 : Int32)))]) (st' := []) (m' := (f, l)) rfl rfl (fl_bo rfl) rfl ?_
    refine fl_Tq.stp (pc' := 4) (lv' := [some (.inr (.inr (.inl (1, 1)))), some (.inr (.inl ((c0_allFull_a4 f k4) + (((f (18 + 4 * k4) 0) * (3600 : Int32)).toInt64)))), none, some (.inl ((Int32.ofNat k4) + (1 : Int32)))]) (st' := []) (m' := (f, l)) rfl rfl (fl_bo rfl) rfl ?_
    have ea : c0_allFull_a4 f (k4 + 1) = (c0_allFull_a4 f k4) + (((f (18 + 4 * k4) 0) * (3600 : Int32)).toInt64) := by
      show ((c0_allFull_a4 f k4) + (((f (18 + 4 * k4) 0) * (3600 : Int32)).toInt64)) = _
      rfl
    rw [ea, ← t2_k1] at hS
    exact hS
  refine t2_for (S := fun k4 => fl_Tq (pw_P L xs) 43 4 [some (.inr (.inr (.inl (1, 1)))), some (.inr (.inl (c0_allFull_a4 f k4))), none, some (.inl (Int32.ofNat k4))] [] (f, l) Q) hs4 ?_
  show fl_Tq (pw_P L xs) 43 4 [some (.inr (.inr (.inl (1, 1)))), some (.inr (.inl (c0_allFull_a4 f ((f 1 5).toInt.toNat)))), none, some (.inl (Int32.ofNat ((f 1 5).toInt.toNat)))] [] (f, l) _
  refine fl_Tq.stp (pc' := 5) (lv' := [some (.inr (.inr (.inl (1, 1)))), some (.inr (.inl (c0_allFull_a4 f ((f 1 5).toInt.toNat)))), none, some (.inl (Int32.ofNat ((f 1 5).toInt.toNat)))]) (st' := [.inl (Int32.ofNat ((f 1 5).toInt.toNat))]) (m' := (f, l)) rfl rfl (fl_bo rfl) rfl ?_
  refine fl_Tq.stp (pc' := 6) (lv' := [some (.inr (.inr (.inl (1, 1)))), some (.inr (.inl (c0_allFull_a4 f ((f 1 5).toInt.toNat)))), none, some (.inl (Int32.ofNat ((f 1 5).toInt.toNat)))]) (st' := [.inr (.inr (.inl (1, 1))), .inl (Int32.ofNat ((f 1 5).toInt.toNat))]) (m' := (f, l)) rfl rfl (fl_bo rfl) rfl ?_
  refine fl_Tq.gfV (k := 5) (v := f 1 5) rfl (fl_bo rfl) rfl rfl ?_
  refine fl_Tq.jt rfl (fl_bo rfl) (c2_ge_t (t2_ln (t2_nn hc.1))) rfl ?_
  refine fl_Tq.stp (pc' := 32) (lv' := [some (.inr (.inr (.inl (1, 1)))), some (.inr (.inl (c0_allFull_a4 f ((f 1 5).toInt.toNat)))), none, some (.inl (Int32.ofNat ((f 1 5).toInt.toNat)))]) (st' := [.inr (.inl (c0_allFull_a4 f ((f 1 5).toInt.toNat)))]) (m' := (f, l)) rfl rfl (fl_bo rfl) rfl ?_
  exact fl_Tq.ret rfl rfl rfl k
noncomputable def c0_chargeApart_a4 (f : t2_F) (x : Int32) : Nat → Int32
  | 0 => (0 : Int32)
  | k4 + 1 => (c0_chargeApart_a4 f x k4) + (if ((x >>> ((Int32.ofNat k4) &&& 31)) &&& (1 : Int32)).toInt = 0 then -(f (18 + 4 * k4) 2) else f (18 + 4 * k4) 2)
noncomputable def c0_chargeApart_v (f : t2_F) (x : Int32) : Int32 := c0_chargeApart_a4 f x ((f 1 5).toInt.toNat)
theorem c0_chargeApart_q {L : Nat} {xs : Nat → Int32} {f : t2_F} {l : t2_L} {Q : Option fl_V → fl_M → Prop} {x : Int32} (hc : 0 ≤ (f 1 5).toInt ∧ (f 1 5).toInt ≤ 16) (k : Q (some (.inl (c0_chargeApart_v f x))) (f, l)) : fl_Tq (pw_P L xs) 45 0 (fl_args (am_mxl (pw_P L xs) 45) [.inr (.inr (.inl (1, 1))), .inl x]) [] (f, l) Q := by
  refine fl_Tq.cI (c := (0 : Int32)) rfl (by decide +kernel) (fl_bo rfl) ?_
  refine fl_Tq.stp (pc' := 2) (lv' := [some (.inr (.inr (.inl (1, 1)))), some (.inl x), some (.inl (0 : Int32)), none]) (st' := []) (m' := (f, l)) rfl rfl (fl_bo rfl) rfl ?_
  refine fl_Tq.cI (c := (0 : Int32)) rfl (by decide +kernel) (fl_bo rfl) ?_
  refine fl_Tq.stp (pc' := 4) (lv' := [some (.inr (.inr (.inl (1, 1)))), some (.inl x), some (.inl (0 : Int32)), some (.inl (0 : Int32))]) (st' := []) (m' := (f, l)) rfl rfl (fl_bo rfl) rfl ?_
  have hs4 : ∀ k4 : Nat, k4 < (f 1 5).toInt.toNat → fl_Tq (pw_P L xs) 45 4 [some (.inr (.inr (.inl (1, 1)))), some (.inl x), some (.inl (c0_chargeApart_a4 f x (k4 + 1))), some (.inl (Int32.ofNat (k4 + 1)))] [] (f, l) Q → fl_Tq (pw_P L xs) 45 4 [some (.inr (.inr (.inl (1, 1)))), some (.inl x), some (.inl (c0_chargeApart_a4 f x k4)), some (.inl (Int32.ofNat k4))] [] (f, l) Q := by
    intro k4 hk4 hS
    refine fl_Tq.stp (pc' := 5) (lv' := [some (.inr (.inr (.inl (1, 1)))), some (.inl x), some (.inl (c0_chargeApart_a4 f x k4)), some (.inl (Int32.ofNat k4))]) (st' := [.inl (Int32.ofNat k4)]) (m' := (f, l)) rfl rfl (fl_bo rfl) rfl ?_
    refine fl_Tq.stp (pc' := 6) (lv' := [some (.inr (.inr (.inl (1, 1)))), some (.inl x), some (.inl (c0_chargeApart_a4 f x k4)), some (.inl (Int32.ofNat k4))]) (st' := [.inr (.inr (.inl (1, 1))), .inl (Int32.ofNat k4)]) (m' := (f, l)) rfl rfl (fl_bo rfl) rfl ?_
    refine fl_Tq.gfV (k := 5) (v := f 1 5) rfl (fl_bo rfl) rfl rfl ?_
    refine fl_Tq.jf rfl (fl_bo rfl) (c2_ge_f (t2_lk hk4 (t2_nn hc.1))) rfl ?_
    refine fl_Tq.stp (pc' := 13) (lv' := [some (.inr (.inr (.inl (1, 1)))), some (.inl x), some (.inl (c0_chargeApart_a4 f x k4)), some (.inl (Int32.ofNat k4))]) (st' := [.inl (c0_chargeApart_a4 f x k4)]) (m' := (f, l)) rfl rfl (fl_bo rfl) rfl ?_
    refine fl_Tq.stp (pc' := 14) (lv' := [some (.inr (.inr (.inl (1, 1)))), some (.inl x), some (.inl (c0_chargeApart_a4 f x k4)), some (.inl (Int32.ofNat k4))]) (st' := [.inl x, .inl (c0_chargeApart_a4 f x k4)]) (m' := (f, l)) rfl rfl (fl_bo rfl) rfl ?_
    refine fl_Tq.stp (pc' := 15) (lv' := [some (.inr (.inr (.inl (1, 1)))), some (.inl x), some (.inl (c0_chargeApart_a4 f x k4)), some (.inl (Int32.ofNat k4))]) (st' := [.inl (Int32.ofNat k4), .inl x, .inl (c0_chargeApart_a4 f x k4)]) (m' := (f, l)) rfl rfl (fl_bo rfl) rfl ?_
    refine fl_Tq.stp (pc' := 16) (lv' := [some (.inr (.inr (.inl (1, 1)))), some (.inl x), some (.inl (c0_chargeApart_a4 f x k4)), some (.inl (Int32.ofNat k4))]) (st' := [.inl (x >>> ((Int32.ofNat k4) &&& 31)), .inl (c0_chargeApart_a4 f x k4)]) (m' := (f, l)) rfl rfl (fl_bo rfl) rfl ?_
    refine fl_Tq.cI (c := (1 : Int32)) rfl (by decide +kernel) (fl_bo rfl) ?_
    refine fl_Tq.stp (pc' := 18) (lv' := [some (.inr (.inr (.inl (1, 1)))), some (.inl x), some (.inl (c0_chargeApart_a4 f x k4)), some (.inl (Int32.ofNat k4))]) (st' := [.inl ((x >>> ((Int32.ofNat k4) &&& 31)) &&& (1 : Int32)), .inl (c0_chargeApart_a4 f x k4)]) (m' := (f, l)) rfl rfl (fl_bo rfl) rfl ?_
    have hj30 : fl_Tq (pw_P L xs) 45 43 [some (.inr (.inr (.inl (1, 1)))), some (.inl x), some (.inl (c0_chargeApart_a4 f x k4)), some (.inl (Int32.ofNat k4))] [.inl (if ((x >>> ((Int32.ofNat k4) &&& 31)) &&& (1 : Int32)).toInt = 0 then -(f (18 + 4 * k4) 2) else f (18 + 4 * k4) 2), .inl (c0_chargeApart_a4 f x k4)] (f, l) Q → fl_Tq (pw_P L xs) 45 18 [some (.inr (.inr (.inl (1, 1)))), some (.inl x), some (.inl (c0_chargeApart_a4 f x k4)), some (.inl (Int32.ofNat k4))] [.inl ((x >>> ((Int32.ofNat k4) &&& 31)) &&& (1 : Int32)), .inl (c0_chargeApart_a4 f x k4)] (f, l) Q := by
      intro hJ
      by_cases h1 : ((x >>> ((Int32.ofNat k4) &&& 31)) &&& (1 : Int32)).toInt = 0
      · refine fl_Tq.zt rfl (fl_bo rfl) (c1_eq_t h1) rfl ?_
        refine fl_Tq.stp (pc' := 34) (lv' := [some (.inr (.inr (.inl (1, 1)))), some (.inl x), some (.inl (c0_chargeApart_a4 f x k4)), some (.inl (Int32.ofNat k4))]) (st' := [.inr (.inr (.inl (1, 1))), .inl (c0_chargeApart_a4 f x k4)]) (m' := (f, l)) rfl rfl (fl_bo rfl) rfl ?_
        refine fl_Tq.stp (pc' := 37) (lv' := [some (.inr (.inr (.inl (1, 1)))), some (.inl x), some (.inl (c0_chargeApart_a4 f x k4)), some (.inl (Int32.ofNat k4))]) (st' := [.inr (.inr (.inl (2, 2))), .inl (c0_chargeApart_a4 f x k4)]) (m' := (f, l)) rfl rfl (fl_bo rfl) rfl ?_
        refine fl_Tq.stp (pc' := 38) (lv' := [some (.inr (.inr (.inl (1, 1)))), some (.inl x), some (.inl (c0_chargeApart_a4 f x k4)), some (.inl (Int32.ofNat k4))]) (st' := [.inl (Int32.ofNat k4), .inr (.inr (.inl (2, 2))), .inl (c0_chargeApart_a4 f x k4)]) (m' := (f, l)) rfl rfl (fl_bo rfl) rfl ?_
        refine fl_Tq.qld (p := 2) (τ := 2) (n := 16) (t := 18) (b := 16) (d := 3) (k := k4) rfl (fl_bo rfl) rfl (at_ofN (by omega)) (by omega) ?_
        show fl_Tq _ 45 39 [some (.inr (.inr (.inl (1, 1)))), some (.inl x), some (.inl (c0_chargeApart_a4 f x k4)), some (.inl (Int32.ofNat k4))] [.inr (.inr (.inl (18, 18 + 4 * k4))), .inl (c0_chargeApart_a4 f x k4)] (f, l) _
        refine fl_Tq.gfV (k := 2) (v := f (18 + 4 * k4) 2) rfl (fl_oks_ok ⟨(t2_kc0 (by omega)), True.intro, True.intro⟩) rfl rfl ?_
        refine fl_Tq.stp (pc' := 43) (lv' := [some (.inr (.inr (.inl (1, 1)))), some (.inl x), some (.inl (c0_chargeApart_a4 f x k4)), some (.inl (Int32.ofNat k4))]) (st' := [.inl (-(f (18 + 4 * k4) 2)), .inl (c0_chargeApart_a4 f x k4)]) (m' := (f, l)) rfl rfl (fl_bo rfl) rfl ?_
        have e0 : (if ((x >>> ((Int32.ofNat k4) &&& 31)) &&& (1 : Int32)).toInt = 0 then -(f (18 + 4 * k4) 2) else f (18 + 4 * k4) 2) = -(f (18 + 4 * k4) 2) := by simp only [if_pos h1]
        rw [e0] at hJ
        exact hJ
      · refine fl_Tq.zf rfl (fl_bo rfl) (c1_eq_f h1) rfl ?_
        refine fl_Tq.stp (pc' := 22) (lv' := [some (.inr (.inr (.inl (1, 1)))), some (.inl x), some (.inl (c0_chargeApart_a4 f x k4)), some (.inl (Int32.ofNat k4))]) (st' := [.inr (.inr (.inl (1, 1))), .inl (c0_chargeApart_a4 f x k4)]) (m' := (f, l)) rfl rfl (fl_bo rfl) rfl ?_
        refine fl_Tq.stp (pc' := 25) (lv' := [some (.inr (.inr (.inl (1, 1)))), some (.inl x), some (.inl (c0_chargeApart_a4 f x k4)), some (.inl (Int32.ofNat k4))]) (st' := [.inr (.inr (.inl (2, 2))), .inl (c0_chargeApart_a4 f x k4)]) (m' := (f, l)) rfl rfl (fl_bo rfl) rfl ?_
        refine fl_Tq.stp (pc' := 26) (lv' := [some (.inr (.inr (.inl (1, 1)))), some (.inl x), some (.inl (c0_chargeApart_a4 f x k4)), some (.inl (Int32.ofNat k4))]) (st' := [.inl (Int32.ofNat k4), .inr (.inr (.inl (2, 2))), .inl (c0_chargeApart_a4 f x k4)]) (m' := (f, l)) rfl rfl (fl_bo rfl) rfl ?_
        refine fl_Tq.qld (p := 2) (τ := 2) (n := 16) (t := 18) (b := 16) (d := 3) (k := k4) rfl (fl_bo rfl) rfl (at_ofN (by omega)) (by omega) ?_
        show fl_Tq _ 45 27 [some (.inr (.inr (.inl (1, 1)))), some (.inl x), some (.inl (c0_chargeApart_a4 f x k4)), some (.inl (Int32.ofNat k4))] [.inr (.inr (.inl (18, 18 + 4 * k4))), .inl (c0_chargeApart_a4 f x k4)] (f, l) _
        refine fl_Tq.gfV (k := 2) (v := f (18 + 4 * k4) 2) rfl (fl_oks_ok ⟨(t2_kc0 (by omega)), True.intro, True.intro⟩) rfl rfl ?_
        refine fl_Tq.stp (pc' := 43) (lv' := [some (.inr (.inr (.inl (1, 1)))), some (.inl x), some (.inl (c0_chargeApart_a4 f x k4)), some (.inl (Int32.ofNat k4))]) (st' := [.inl (f (18 + 4 * k4) 2), .inl (c0_chargeApart_a4 f x k4)]) (m' := (f, l)) rfl rfl (fl_bo rfl) rfl ?_
        have e0 : (if ((x >>> ((Int32.ofNat k4) &&& 31)) &&& (1 : Int32)).toInt = 0 then -(f (18 + 4 * k4) 2) else f (18 + 4 * k4) 2) = f (18 + 4 * k4) 2 := by simp only [if_neg h1]
        rw [e0] at hJ
        exact hJ
    refine hj30 ?_
    show fl_Tq _ 45 43 [some (.inr (.inr (.inl (1, 1)))), some (.inl x), some (.inl (c0_chargeApart_a4 f x k4)), some (.inl (Int32.ofNat k4))] [.inl (if ((x >>> ((Int32.ofNat k4) &&& 31)) &&& (1 : Int32)).toInt = 0 then -(f (18 + 4 * k4) 2) else f (18 + 4 * k4) 2), .inl (c0_chargeApart_a4 f x k4)] (f, l) _
    refine fl_Tq.stp (pc' := 44) (lv' := [some (.inr (.inr (.inl (1, 1)))), some (.inl x), some (.inl (c0_chargeApart_a4 f x k4)), some (.inl (Int32.ofNat k4))]) (st' := [.inl ((c0_chargeApart_a4 f x k4) + (if ((x >>> ((Int32.ofNat k4) &&& 31)) &&& (1 : Int32)).toInt = 0 then -(f (18 + 4 * k4) 2) else f (18 + 4 * k4) 2))]) (m' := (f, l)) rfl rfl (fl_bo rfl) rfl ?_
    refine fl_Tq.stp (pc' := 45) (lv' := [some (.inr (.inr (.inl (1, 1)))), some (.inl x), some (.inl ((c0_chargeApart_a4 f x k4) + (if ((x >>> ((Int32.ofNat k4) &&& 31)) &&& (1 : Int32)).toInt = 0 then -(f (18 + 4 * k4) 2) else f (18 + 4 * k4) 2))), some (.inl (Int32.ofNat k4))]) (st' := []) (m' := (f, l)) rfl rfl (fl_bo rfl) rfl ?_
    refine fl_Tq.stp (pc' := 48) (lv' := [some (.inr (.inr (.inl (1, 1)))), some (.inl x), some (.inl ((c0_chargeApart_a4 f x k4) + (if ((x >>> ((Int32.ofNat k4) &&& 31)) &&& (1 : Int32)).toInt = 0 then -(f (18 + 4 * k4) 2) else f (18 + 4 * k4) 2))), some (.inl ((Int32.ofNat k4) + (1 : Int32)))]) (st' := []) (m' := (f, l)) rfl rfl (fl_bo rfl) rfl ?_
    refine fl_Tq.stp (pc' := 4) (lv' := [some (.inr (.inr (.inl (1, 1)))), some (.inl x), some (.inl ((c0_chargeApart_a4 f x k4) + (if ((x >>> ((Int32.ofNat k4) &&& 31)) &&& (1 : Int32)).toInt = 0 then -(f (18 + 4 * k4) 2) else f (18 + 4 * k4) 2))), some (.inl ((Int32.ofNat k4) + (1 : Int32)))]) (st' := []) (m' := (f, l)) rfl rfl (fl_bo rfl) rfl ?_
    have ea : c0_chargeApart_a4 f x (k4 + 1) = (c0_chargeApart_a4 f x k4) + (if ((x >>> ((Int32.ofNat k4) &&& 31)) &&& (1 : Int32)).toInt = 0 then -(f (18 + 4 * k4) 2) else f (18 + 4 * k4) 2) := by
      show ((c0_chargeApart_a4 f x k4) + (if ((x >>> ((Int32.ofNat k4) &&& 31)) &&& (1 : Int32)).toInt = 0 then -(f (18 + 4 * k4) 2) else f (18 + 4 * k4) 2)) = _
      rfl
    rw [ea, ← t2_k1] at hS
    exact hS
  refine t2_for (S := fun k4 => fl_Tq (pw_P L xs) 45 4 [some (.inr (.inr (.inl (1, 1)))), some (.inl x), some (.inl (c0_chargeApart_a4 f x k4)), some (.inl (Int32.ofNat k4))] [] (f, l) Q) hs4 ?_
  show fl_Tq (pw_P L xs) 45 4 [some (.inr (.inr (.inl (1, 1)))), some (.inl x), some (.inl (c0_chargeApart_a4 f x ((f 1 5).toInt.toNat))), some (.inl (Int32.ofNat ((f 1 5).toInt.toNat)))] [] (f, l) _
  refine fl_Tq.stp (pc' := 5) (lv' := [some (.inr (.inr (.inl (1, 1)))), some (.inl x), some (.inl (c0_chargeApart_a4 f x ((f 1 5).toInt.toNat))), some (.inl (Int32.ofNat ((f 1 5).toInt.toNat)))]) (st' := [.inl (Int32.ofNat ((f 1 5).toInt.toNat))]) (m' := (f, l)) rfl rfl (fl_bo rfl) rfl ?_
  refine fl_Tq.stp (pc' := 6) (lv' := [some (.inr (.inr (.inl (1, 1)))), some (.inl x), some (.inl (c0_chargeApart_a4 f x ((f 1 5).toInt.toNat))), some (.inl (Int32.ofNat ((f 1 5).toInt.toNat)))]) (st' := [.inr (.inr (.inl (1, 1))), .inl (Int32.ofNat ((f 1 5).toInt.toNat))]) (m' := (f, l)) rfl rfl (fl_bo rfl) rfl ?_
  refine fl_Tq.gfV (k := 5) (v := f 1 5) rfl (fl_bo rfl) rfl rfl ?_
  refine fl_Tq.jt rfl (fl_bo rfl) (c2_ge_t (t2_ln (t2_nn hc.1))) rfl ?_
  refine fl_Tq.stp (pc' := 52) (lv' := [some (.inr (.inr (.inl (1, 1)))), some (.inl x), some (.inl (c0_chargeApart_a4 f x ((f 1 5).toInt.toNat))), some (.inl (Int32.ofNat ((f 1 5).toInt.toNat)))]) (st' := [.inl (c0_chargeApart_a4 f x ((f 1 5).toInt.toNat))]) (m' := (f, l)) rfl rfl (fl_bo rfl) rfl ?_
  exact fl_Tq.ret rfl rfl rfl k
noncomputable def c0_orderedBits_j14_0 (f : t2_F)  : Int32 := if (f 1 7).toInt = (1 : Int32).toInt then (3 : Int32) else (5 : Int32)
noncomputable def c0_orderedBits_v (f : t2_F) : Int32 := if (f 1 7).toInt = 0 then (0 : Int32) else c0_orderedBits_j14_0 f
theorem c0_orderedBits_q {L : Nat} {xs : Nat → Int32} {f : t2_F} {l : t2_L} {Q : Option fl_V → fl_M → Prop}   (k : Q (some (.inl (c0_orderedBits_v f))) (f, l)) : fl_Tq (pw_P L xs) 52 0 (fl_args (am_mxl (pw_P L xs) 52) [.inr (.inr (.inl (1, 1)))]) [] (f, l) Q := by
  refine fl_Tq.stp (pc' := 1) (lv' := [some (.inr (.inr (.inl (1, 1))))]) (st' := [.inr (.inr (.inl (1, 1)))]) (m' := (f, l)) rfl rfl (fl_bo rfl) rfl ?_
  refine fl_Tq.gfV (k := 7) (v := f 1 7) rfl (fl_bo rfl) rfl rfl ?_
  by_cases h1 : (f 1 7).toInt = 0
  · refine fl_Tq.zf rfl (fl_bo rfl) (c1_ne_f h1) rfl ?_
    refine fl_Tq.cI (c := (0 : Int32)) rfl (by decide +kernel) (fl_bo rfl) ?_
    refine fl_Tq.ret rfl rfl rfl ?_
    unfold c0_orderedBits_v at k
    simp only [if_pos h1] at k
    exact k
  · refine fl_Tq.zt rfl (fl_bo rfl) (c1_ne_t h1) rfl ?_
    refine fl_Tq.stp (pc' := 10) (lv' := [some (.inr (.inr (.inl (1, 1))))]) (st' := [.inr (.inr (.inl (1, 1)))]) (m' := (f, l)) rfl rfl (fl_bo rfl) rfl ?_
    refine fl_Tq.gfV (k := 7) (v := f 1 7) rfl (fl_bo rfl) rfl rfl ?_
    refine fl_Tq.cI (c := (1 : Int32)) rfl (by decide +kernel) (fl_bo rfl) ?_
    have hj31 : fl_Tq (pw_P L xs) 52 22 [some (.inr (.inr (.inl (1, 1))))] [.inl (c0_orderedBits_j14_0 f)] (f, l) Q → fl_Tq (pw_P L xs) 52 14 [some (.inr (.inr (.inl (1, 1))))] [.inl (1 : Int32), .inl (f 1 7)] (f, l) Q := by
      intro hJ
      by_cases h2 : (f 1 7).toInt = (1 : Int32).toInt
      · refine fl_Tq.jf rfl (fl_bo rfl) (c2_ne_f h2) rfl ?_
        refine fl_Tq.cI (c := (3 : Int32)) rfl (by decide +kernel) (fl_bo rfl) ?_
        refine fl_Tq.stp (pc' := 22) (lv' := [some (.inr (.inr (.inl (1, 1))))]) (st' := [.inl (3 : Int32)]) (m' := (f, l)) rfl rfl (fl_bo rfl) rfl ?_
        have e0 : (c0_orderedBits_j14_0 f) = (3 : Int32) := by simp only [c0_orderedBits_j14_0, if_pos h2]
        rw [e0] at hJ
        exact hJ
      · refine fl_Tq.jt rfl (fl_bo rfl) (c2_ne_t h2) rfl ?_
        refine fl_Tq.cI (c := (5 : Int32)) rfl (by decide +kernel) (fl_bo rfl) ?_
        have e0 : (c0_orderedBits_j14_0 f) = (5 : Int32) := by simp only [c0_orderedBits_j14_0, if_neg h2]
        rw [e0] at hJ
        exact hJ
    refine hj31 ?_
    show fl_Tq _ 52 22 [some (.inr (.inr (.inl (1, 1))))] [.inl (c0_orderedBits_j14_0 f)] (f, l) _
    refine fl_Tq.ret rfl rfl rfl ?_
    unfold c0_orderedBits_v at k
    simp only [if_neg h1] at k
    exact k
noncomputable def c0_actualBits_a7 (f : t2_F) : Nat → Int32
  | 0 => c0_orderedBits_v f
  | k7 + 1 => if (f 5 k7).toInt = (1 : Int32).toInt then (c0_actualBits_a7 f k7) ||| ((1 : Int32) <<< ((Int32.ofNat k7) &&& 31)) else (if (f 5 k7).toInt = (2 : Int32).toInt then (c0_actualBits_a7 f k7) &&& (((1 : Int32) <<< ((Int32.ofNat k7) &&& 31)) ^^^ (-1 : Int32)) else c0_actualBits_a7 f k7)
noncomputable def c0_actualBits_v (f : t2_F) : Int32 := c0_actualBits_a7 f 3
theorem c0_actualBits_q {L : Nat} {xs : Nat → Int32} {f : t2_F} {l : t2_L} {Q : Option fl_V → fl_M → Prop}   (k : Q (some (.inl (c0_actualBits_v f))) (f, l)) : fl_Tq (pw_P L xs) 53 0 (fl_args (am_mxl (pw_P L xs) 53) [.inr (.inr (.inl (1, 1)))]) [] (f, l) Q := by
  refine fl_Tq.stp (pc' := 1) (lv' := [some (.inr (.inr (.inl (1, 1)))), none, none]) (st' := [.inr (.inr (.inl (1, 1)))]) (m' := (f, l)) rfl rfl (fl_bo rfl) rfl ?_
  refine fl_Tq.cal rfl rfl (fl_bo rfl) rfl ?_
  refine c0_orderedBits_q  ?_
  show fl_Tq _ 53 4 [some (.inr (.inr (.inl (1, 1)))), none, none] [.inl (c0_orderedBits_v f)] (f, l) _
  refine fl_Tq.stp (pc' := 5) (lv' := [some (.inr (.inr (.inl (1, 1)))), some (.inl (c0_orderedBits_v f)), none]) (st' := []) (m' := (f, l)) rfl rfl (fl_bo rfl) rfl ?_
  refine fl_Tq.cI (c := (0 : Int32)) rfl (by decide +kernel) (fl_bo rfl) ?_
  refine fl_Tq.stp (pc' := 7) (lv' := [some (.inr (.inr (.inl (1, 1)))), some (.inl (c0_orderedBits_v f)), some (.inl (0 : Int32))]) (st' := []) (m' := (f, l)) rfl rfl (fl_bo rfl) rfl ?_
  have hs7 : ∀ k7 : Nat, k7 < 3 → fl_Tq (pw_P L xs) 53 7 [some (.inr (.inr (.inl (1, 1)))), some (.inl (c0_actualBits_a7 f (k7 + 1))), some (.inl (Int32.ofNat (k7 + 1)))] [] (f, l) Q → fl_Tq (pw_P L xs) 53 7 [some (.inr (.inr (.inl (1, 1)))), some (.inl (c0_actualBits_a7 f k7)), some (.inl (Int32.ofNat k7))] [] (f, l) Q := by
    intro k7 hk7 hS
    refine fl_Tq.stp (pc' := 8) (lv' := [some (.inr (.inr (.inl (1, 1)))), some (.inl (c0_actualBits_a7 f k7)), some (.inl (Int32.ofNat k7))]) (st' := [.inl (Int32.ofNat k7)]) (m' := (f, l)) rfl rfl (fl_bo rfl) rfl ?_
    refine fl_Tq.stp (pc' := 9) (lv' := [some (.inr (.inr (.inl (1, 1)))), some (.inl (c0_actualBits_a7 f k7)), some (.inl (Int32.ofNat k7))]) (st' := [.inr (.inr (.inl (1, 1))), .inl (Int32.ofNat k7)]) (m' := (f, l)) rfl rfl (fl_bo rfl) rfl ?_
    refine fl_Tq.stp (pc' := 12) (lv' := [some (.inr (.inr (.inl (1, 1)))), some (.inl (c0_actualBits_a7 f k7)), some (.inl (Int32.ofNat k7))]) (st' := [.inr (.inr (.inl (3, 3))), .inl (Int32.ofNat k7)]) (m' := (f, l)) rfl rfl (fl_bo rfl) rfl ?_
    refine fl_Tq.stp (pc' := 15) (lv' := [some (.inr (.inr (.inl (1, 1)))), some (.inl (c0_actualBits_a7 f k7)), some (.inl (Int32.ofNat k7))]) (st' := [.inr (.inr (.inl (5, 5))), .inl (Int32.ofNat k7)]) (m' := (f, l)) rfl rfl (fl_bo rfl) rfl ?_
    refine fl_Tq.stp (pc' := 16) (lv' := [some (.inr (.inr (.inl (1, 1)))), some (.inl (c0_actualBits_a7 f k7)), some (.inl (Int32.ofNat k7))]) (st' := [.inl (Int32.ofNat 3), .inl (Int32.ofNat k7)]) (m' := (f, l)) rfl rfl (fl_bo rfl) rfl ?_
    refine fl_Tq.jf rfl (fl_bo rfl) (c2_ge_f (t2_lk hk7 (by decide +kernel))) rfl ?_
    refine fl_Tq.stp (pc' := 20) (lv' := [some (.inr (.inr (.inl (1, 1)))), some (.inl (c0_actualBits_a7 f k7)), some (.inl (Int32.ofNat k7))]) (st' := [.inr (.inr (.inl (1, 1)))]) (m' := (f, l)) rfl rfl (fl_bo rfl) rfl ?_
    refine fl_Tq.stp (pc' := 23) (lv' := [some (.inr (.inr (.inl (1, 1)))), some (.inl (c0_actualBits_a7 f k7)), some (.inl (Int32.ofNat k7))]) (st' := [.inr (.inr (.inl (3, 3)))]) (m' := (f, l)) rfl rfl (fl_bo rfl) rfl ?_
    refine fl_Tq.stp (pc' := 26) (lv' := [some (.inr (.inr (.inl (1, 1)))), some (.inl (c0_actualBits_a7 f k7)), some (.inl (Int32.ofNat k7))]) (st' := [.inr (.inr (.inl (5, 5)))]) (m' := (f, l)) rfl rfl (fl_bo rfl) rfl ?_
    refine fl_Tq.stp (pc' := 27) (lv' := [some (.inr (.inr (.inl (1, 1)))), some (.inl (c0_actualBits_a7 f k7)), some (.inl (Int32.ofNat k7))]) (st' := [.inl (Int32.ofNat k7), .inr (.inr (.inl (5, 5)))]) (m' := (f, l)) rfl rfl (fl_bo rfl) rfl ?_
    refine fl_Tq.ldV (p := 5) (τ := 5) (n := 3) (z := (0, 0, 0)) (k := k7) (v := f 5 k7) rfl (fl_bo rfl) rfl (at_ofN (by omega)) (by omega) rfl ?_
    refine fl_Tq.cI (c := (1 : Int32)) rfl (by decide +kernel) (fl_bo rfl) ?_
    have hj32 : fl_Tq (pw_P L xs) 53 62 [some (.inr (.inr (.inl (1, 1)))), some (.inl (if (f 5 k7).toInt = (1 : Int32).toInt then (c0_actualBits_a7 f k7) ||| ((1 : Int32) <<< ((Int32.ofNat k7) &&& 31)) else (if (f 5 k7).toInt = (2 : Int32).toInt then (c0_actualBits_a7 f k7) &&& (((1 : Int32) <<< ((Int32.ofNat k7) &&& 31)) ^^^ (-1 : Int32)) else c0_actualBits_a7 f k7))), some (.inl (Int32.ofNat k7))] [] (f, l) Q → fl_Tq (pw_P L xs) 53 29 [some (.inr (.inr (.inl (1, 1)))), some (.inl (c0_actualBits_a7 f k7)), some (.inl (Int32.ofNat k7))] [.inl (1 : Int32), .inl (f 5 k7)] (f, l) Q := by
      intro hJ
      by_cases h1 : (f 5 k7).toInt = (1 : Int32).toInt
      · refine fl_Tq.jf rfl (fl_bo rfl) (c2_ne_f h1) rfl ?_
        refine fl_Tq.stp (pc' := 33) (lv' := [some (.inr (.inr (.inl (1, 1)))), some (.inl (c0_actualBits_a7 f k7)), some (.inl (Int32.ofNat k7))]) (st' := [.inl (c0_actualBits_a7 f k7)]) (m' := (f, l)) rfl rfl (fl_bo rfl) rfl ?_
        refine fl_Tq.cI (c := (1 : Int32)) rfl (by decide +kernel) (fl_bo rfl) ?_
        refine fl_Tq.stp (pc' := 35) (lv' := [some (.inr (.inr (.inl (1, 1)))), some (.inl (c0_actualBits_a7 f k7)), some (.inl (Int32.ofNat k7))]) (st' := [.inl (Int32.ofNat k7), .inl (1 : Int32), .inl (c0_actualBits_a7 f k7)]) (m' := (f, l)) rfl rfl (fl_bo rfl) rfl ?_
        refine fl_Tq.stp (pc' := 36) (lv' := [some (.inr (.inr (.inl (1, 1)))), some (.inl (c0_actualBits_a7 f k7)), some (.inl (Int32.ofNat k7))]) (st' := [.inl ((1 : Int32) <<< ((Int32.ofNat k7) &&& 31)), .inl (c0_actualBits_a7 f k7)]) (m' := (f, l)) rfl rfl (fl_bo rfl) rfl ?_
        refine fl_Tq.stp (pc' := 37) (lv' := [some (.inr (.inr (.inl (1, 1)))), some (.inl (c0_actualBits_a7 f k7)), some (.inl (Int32.ofNat k7))]) (st' := [.inl ((c0_actualBits_a7 f k7) ||| ((1 : Int32) <<< ((Int32.ofNat k7) &&& 31)))]) (m' := (f, l)) rfl rfl (fl_bo rfl) rfl ?_
        refine fl_Tq.stp (pc' := 38) (lv' := [some (.inr (.inr (.inl (1, 1)))), some (.inl ((c0_actualBits_a7 f k7) ||| ((1 : Int32) <<< ((Int32.ofNat k7) &&& 31)))), some (.inl (Int32.ofNat k7))]) (st' := []) (m' := (f, l)) rfl rfl (fl_bo rfl) rfl ?_
        refine fl_Tq.stp (pc' := 62) (lv' := [some (.inr (.inr (.inl (1, 1)))), some (.inl ((c0_actualBits_a7 f k7) ||| ((1 : Int32) <<< ((Int32.ofNat k7) &&& 31)))), some (.inl (Int32.ofNat k7))]) (st' := []) (m' := (f, l)) rfl rfl (fl_bo rfl) rfl ?_
        have e0 : (if (f 5 k7).toInt = (1 : Int32).toInt then (c0_actualBits_a7 f k7) ||| ((1 : Int32) <<< ((Int32.ofNat k7) &&& 31)) else (if (f 5 k7).toInt = (2 : Int32).toInt then (c0_actualBits_a7 f k7) &&& (((1 : Int32) <<< ((Int32.ofNat k7) &&& 31)) ^^^ (-1 : Int32)) else c0_actualBits_a7 f k7)) = (c0_actualBits_a7 f k7) ||| ((1 : Int32) <<< ((Int32.ofNat k7) &&& 31)) := by simp only [if_pos h1]
        rw [e0] at hJ
        exact hJ
      · refine fl_Tq.jt rfl (fl_bo rfl) (c2_ne_t h1) rfl ?_
        refine fl_Tq.stp (pc' := 42) (lv' := [some (.inr (.inr (.inl (1, 1)))), some (.inl (c0_actualBits_a7 f k7)), some (.inl (Int32.ofNat k7))]) (st' := [.inr (.inr (.inl (1, 1)))]) (m' := (f, l)) rfl rfl (fl_bo rfl) rfl ?_
        refine fl_Tq.stp (pc' := 45) (lv' := [some (.inr (.inr (.inl (1, 1)))), some (.inl (c0_actualBits_a7 f k7)), some (.inl (Int32.ofNat k7))]) (st' := [.inr (.inr (.inl (3, 3)))]) (m' := (f, l)) rfl rfl (fl_bo rfl) rfl ?_
        refine fl_Tq.stp (pc' := 48) (lv' := [some (.inr (.inr (.inl (1, 1)))), some (.inl (c0_actualBits_a7 f k7)), some (.inl (Int32.ofNat k7))]) (st' := [.inr (.inr (.inl (5, 5)))]) (m' := (f, l)) rfl rfl (fl_bo rfl) rfl ?_
        refine fl_Tq.stp (pc' := 49) (lv' := [some (.inr (.inr (.inl (1, 1)))), some (.inl (c0_actualBits_a7 f k7)), some (.inl (Int32.ofNat k7))]) (st' := [.inl (Int32.ofNat k7), .inr (.inr (.inl (5, 5)))]) (m' := (f, l)) rfl rfl (fl_bo rfl) rfl ?_
        refine fl_Tq.ldV (p := 5) (τ := 5) (n := 3) (z := (0, 0, 0)) (k := k7) (v := f 5 k7) rfl (fl_bo rfl) rfl (at_ofN (by omega)) (by omega) rfl ?_
        refine fl_Tq.cI (c := (2 : Int32)) rfl (by decide +kernel) (fl_bo rfl) ?_
        by_cases h2 : (f 5 k7).toInt = (2 : Int32).toInt
        · refine fl_Tq.jf rfl (fl_bo rfl) (c2_ne_f h2) rfl ?_
          refine fl_Tq.stp (pc' := 55) (lv' := [some (.inr (.inr (.inl (1, 1)))), some (.inl (c0_actualBits_a7 f k7)), some (.inl (Int32.ofNat k7))]) (st' := [.inl (c0_actualBits_a7 f k7)]) (m' := (f, l)) rfl rfl (fl_bo rfl) rfl ?_
          refine fl_Tq.cI (c := (1 : Int32)) rfl (by decide +kernel) (fl_bo rfl) ?_
          refine fl_Tq.stp (pc' := 57) (lv' := [some (.inr (.inr (.inl (1, 1)))), some (.inl (c0_actualBits_a7 f k7)), some (.inl (Int32.ofNat k7))]) (st' := [.inl (Int32.ofNat k7), .inl (1 : Int32), .inl (c0_actualBits_a7 f k7)]) (m' := (f, l)) rfl rfl (fl_bo rfl) rfl ?_
          refine fl_Tq.stp (pc' := 58) (lv' := [some (.inr (.inr (.inl (1, 1)))), some (.inl (c0_actualBits_a7 f k7)), some (.inl (Int32.ofNat k7))]) (st' := [.inl ((1 : Int32) <<< ((Int32.ofNat k7) &&& 31)), .inl (c0_actualBits_a7 f k7)]) (m' := (f, l)) rfl rfl (fl_bo rfl) rfl ?_
          refine fl_Tq.cI (c := (-1 : Int32)) rfl (by decide +kernel) (fl_bo rfl) ?_
          refine fl_Tq.stp (pc' := 60) (lv' := [some (.inr (.inr (.inl (1, 1)))), some (.inl (c0_actualBits_a7 f k7)), some (.inl (Int32.ofNat k7))]) (st' := [.inl (((1 : Int32) <<< ((Int32.ofNat k7) &&& 31)) ^^^ (-1 : Int32)), .inl (c0_actualBits_a7 f k7)]) (m' := (f, l)) rfl rfl (fl_bo rfl) rfl ?_
          refine fl_Tq.stp (pc' := 61) (lv' := [some (.inr (.inr (.inl (1, 1)))), some (.inl (c0_actualBits_a7 f k7)), some (.inl (Int32.ofNat k7))]) (st' := [.inl ((c0_actualBits_a7 f k7) &&& (((1 : Int32) <<< ((Int32.ofNat k7) &&& 31)) ^^^ (-1 : Int32)))]) (m' := (f, l)) rfl rfl (fl_bo rfl) rfl ?_
          refine fl_Tq.stp (pc' := 62) (lv' := [some (.inr (.inr (.inl (1, 1)))), some (.inl ((c0_actualBits_a7 f k7) &&& (((1 : Int32) <<< ((Int32.ofNat k7) &&& 31)) ^^^ (-1 : Int32)))), some (.inl (Int32.ofNat k7))]) (st' := []) (m' := (f, l)) rfl rfl (fl_bo rfl) rfl ?_
          have e0 : (if (f 5 k7).toInt = (1 : Int32).toInt then (c0_actualBits_a7 f k7) ||| ((1 : Int32) <<< ((Int32.ofNat k7) &&& 31)) else (if (f 5 k7).toInt = (2 : Int32).toInt then (c0_actualBits_a7 f k7) &&& (((1 : Int32) <<< ((Int32.ofNat k7) &&& 31)) ^^^ (-1 : Int32)) else c0_actualBits_a7 f k7)) = (c0_actualBits_a7 f k7) &&& (((1 : Int32) <<< ((Int32.ofNat k7) &&& 31)) ^^^ (-1 : Int32)) := by simp only [if_neg h1, if_pos h2]
          rw [e0] at hJ
          exact hJ
        · refine fl_Tq.jt rfl (fl_bo rfl) (c2_ne_t h2) rfl ?_
          have e0 : (if (f 5 k7).toInt = (1 : Int32).toInt then (c0_actualBits_a7 f k7) ||| ((1 : Int32) <<< ((Int32.ofNat k7) &&& 31)) else (if (f 5 k7).toInt = (2 : Int32).toInt then (c0_actualBits_a7 f k7) &&& (((1 : Int32) <<< ((Int32.ofNat k7) &&& 31)) ^^^ (-1 : Int32)) else c0_actualBits_a7 f k7)) = c0_actualBits_a7 f k7 := by simp only [if_neg h1, if_neg h2]
          rw [e0] at hJ
          exact hJ
    refine hj32 ?_
    show fl_Tq _ 53 62 [some (.inr (.inr (.inl (1, 1)))), some (.inl (if (f 5 k7).toInt = (1 : Int32).toInt then (c0_actualBits_a7 f k7) ||| ((1 : Int32) <<< ((Int32.ofNat k7) &&& 31)) else (if (f 5 k7).toInt = (2 : Int32).toInt then (c0_actualBits_a7 f k7) &&& (((1 : Int32) <<< ((Int32.ofNat k7) &&& 31)) ^^^ (-1 : Int32)) else c0_actualBits_a7 f k7))), some (.inl (Int32.ofNat k7))] [] (f, l) _
    refine fl_Tq.stp (pc' := 65) (lv' := [some (.inr (.inr (.inl (1, 1)))), some (.inl (if (f 5 k7).toInt = (1 : Int32).toInt then (c0_actualBits_a7 f k7) ||| ((1 : Int32) <<< ((Int32.ofNat k7) &&& 31)) else (if (f 5 k7).toInt = (2 : Int32).toInt then (c0_actualBits_a7 f k7) &&& (((1 : Int32) <<< ((Int32.ofNat k7) &&& 31)) ^^^ (-1 : Int32)) else c0_actualBits_a7 f k7))), some (.inl ((Int32.ofNat k7) + (1 : Int32)))]) (st' := []) (m' := (f, l)) rfl rfl (fl_bo rfl) rfl ?_
    refine fl_Tq.stp (pc' := 7) (lv' := [some (.inr (.inr (.inl (1, 1)))), some (.inl (if (f 5 k7).toInt = (1 : Int32).toInt then (c0_actualBits_a7 f k7) ||| ((1 : Int32) <<< ((Int32.ofNat k7) &&& 31)) else (if (f 5 k7).toInt = (2 : Int32).toInt then (c0_actualBits_a7 f k7) &&& (((1 : Int32) <<< ((Int32.ofNat k7) &&& 31)) ^^^ (-1 : Int32)) else c0_actualBits_a7 f k7))), some (.inl ((Int32.ofNat k7) + (1 : Int32)))]) (st' := []) (m' := (f, l)) rfl rfl (fl_bo rfl) rfl ?_
    have ea : c0_actualBits_a7 f (k7 + 1) = if (f 5 k7).toInt = (1 : Int32).toInt then (c0_actualBits_a7 f k7) ||| ((1 : Int32) <<< ((Int32.ofNat k7) &&& 31)) else (if (f 5 k7).toInt = (2 : Int32).toInt then (c0_actualBits_a7 f k7) &&& (((1 : Int32) <<< ((Int32.ofNat k7) &&& 31)) ^^^ (-1 : Int32)) else c0_actualBits_a7 f k7) := by
      show (if (f 5 k7).toInt = (1 : Int32).toInt then (c0_actualBits_a7 f k7) ||| ((1 : Int32) <<< ((Int32.ofNat k7) &&& 31)) else (if (f 5 k7).toInt = (2 : Int32).toInt then (c0_actualBits_a7 f k7) &&& (((1 : Int32) <<< ((Int32.ofNat k7) &&& 31)) ^^^ (-1 : Int32)) else c0_actualBits_a7 f k7)) = _
      rfl
    rw [ea, ← t2_k1] at hS
    exact hS
  refine t2_for (S := fun k7 => fl_Tq (pw_P L xs) 53 7 [some (.inr (.inr (.inl (1, 1)))), some (.inl (c0_actualBits_a7 f k7)), some (.inl (Int32.ofNat k7))] [] (f, l) Q) hs7 ?_
  show fl_Tq (pw_P L xs) 53 7 [some (.inr (.inr (.inl (1, 1)))), some (.inl (c0_actualBits_a7 f 3)), some (.inl (Int32.ofNat 3))] [] (f, l) _
  refine fl_Tq.stp (pc' := 8) (lv' := [some (.inr (.inr (.inl (1, 1)))), some (.inl (c0_actualBits_a7 f 3)), some (.inl (Int32.ofNat 3))]) (st' := [.inl (Int32.ofNat 3)]) (m' := (f, l)) rfl rfl (fl_bo rfl) rfl ?_
  refine fl_Tq.stp (pc' := 9) (lv' := [some (.inr (.inr (.inl (1, 1)))), some (.inl (c0_actualBits_a7 f 3)), some (.inl (Int32.ofNat 3))]) (st' := [.inr (.inr (.inl (1, 1))), .inl (Int32.ofNat 3)]) (m' := (f, l)) rfl rfl (fl_bo rfl) rfl ?_
  refine fl_Tq.stp (pc' := 12) (lv' := [some (.inr (.inr (.inl (1, 1)))), some (.inl (c0_actualBits_a7 f 3)), some (.inl (Int32.ofNat 3))]) (st' := [.inr (.inr (.inl (3, 3))), .inl (Int32.ofNat 3)]) (m' := (f, l)) rfl rfl (fl_bo rfl) rfl ?_
  refine fl_Tq.stp (pc' := 15) (lv' := [some (.inr (.inr (.inl (1, 1)))), some (.inl (c0_actualBits_a7 f 3)), some (.inl (Int32.ofNat 3))]) (st' := [.inr (.inr (.inl (5, 5))), .inl (Int32.ofNat 3)]) (m' := (f, l)) rfl rfl (fl_bo rfl) rfl ?_
  refine fl_Tq.stp (pc' := 16) (lv' := [some (.inr (.inr (.inl (1, 1)))), some (.inl (c0_actualBits_a7 f 3)), some (.inl (Int32.ofNat 3))]) (st' := [.inl (Int32.ofNat 3), .inl (Int32.ofNat 3)]) (m' := (f, l)) rfl rfl (fl_bo rfl) rfl ?_
  refine fl_Tq.jt rfl (fl_bo rfl) (c2_ge_t (t2_ln (by decide +kernel))) rfl ?_
  refine fl_Tq.stp (pc' := 69) (lv' := [some (.inr (.inr (.inl (1, 1)))), some (.inl (c0_actualBits_a7 f 3)), some (.inl (Int32.ofNat 3))]) (st' := [.inl (c0_actualBits_a7 f 3)]) (m' := (f, l)) rfl rfl (fl_bo rfl) rfl ?_
  exact fl_Tq.ret rfl rfl rfl k
noncomputable def c0_areActual_v (f : t2_F) (x : Int32) : Int32 := if ((c0_actualBits_v f) &&& x).toInt = x.toInt then (1 : Int32) else (0 : Int32)
theorem c0_areActual_q {L : Nat} {xs : Nat → Int32} {f : t2_F} {l : t2_L} {Q : Option fl_V → fl_M → Prop} {x : Int32}  (k : Q (some (.inl (c0_areActual_v f x))) (f, l)) : fl_Tq (pw_P L xs) 54 0 (fl_args (am_mxl (pw_P L xs) 54) [.inr (.inr (.inl (1, 1))), .inl x]) [] (f, l) Q := by
  refine fl_Tq.stp (pc' := 1) (lv' := [some (.inr (.inr (.inl (1, 1)))), some (.inl x)]) (st' := [.inr (.inr (.inl (1, 1)))]) (m' := (f, l)) rfl rfl (fl_bo rfl) rfl ?_
  refine fl_Tq.cal rfl rfl (fl_bo rfl) rfl ?_
  refine c0_actualBits_q  ?_
  show fl_Tq _ 54 4 [some (.inr (.inr (.inl (1, 1)))), some (.inl x)] [.inl (c0_actualBits_v f)] (f, l) _
  refine fl_Tq.stp (pc' := 5) (lv' := [some (.inr (.inr (.inl (1, 1)))), some (.inl x)]) (st' := [.inl x, .inl (c0_actualBits_v f)]) (m' := (f, l)) rfl rfl (fl_bo rfl) rfl ?_
  refine fl_Tq.stp (pc' := 6) (lv' := [some (.inr (.inr (.inl (1, 1)))), some (.inl x)]) (st' := [.inl ((c0_actualBits_v f) &&& x)]) (m' := (f, l)) rfl rfl (fl_bo rfl) rfl ?_
  refine fl_Tq.stp (pc' := 7) (lv' := [some (.inr (.inr (.inl (1, 1)))), some (.inl x)]) (st' := [.inl x, .inl ((c0_actualBits_v f) &&& x)]) (m' := (f, l)) rfl rfl (fl_bo rfl) rfl ?_
  by_cases h1 : ((c0_actualBits_v f) &&& x).toInt = x.toInt
  · refine fl_Tq.jf rfl (fl_bo rfl) (c2_ne_f h1) rfl ?_
    refine fl_Tq.cI (c := (1 : Int32)) rfl (by decide +kernel) (fl_bo rfl) ?_
    refine fl_Tq.stp (pc' := 15) (lv' := [some (.inr (.inr (.inl (1, 1)))), some (.inl x)]) (st' := [.inl (1 : Int32)]) (m' := (f, l)) rfl rfl (fl_bo rfl) rfl ?_
    refine fl_Tq.ret rfl rfl rfl ?_
    unfold c0_areActual_v at k
    simp only [if_pos h1] at k
    exact k
  · refine fl_Tq.jt rfl (fl_bo rfl) (c2_ne_t h1) rfl ?_
    refine fl_Tq.cI (c := (0 : Int32)) rfl (by decide +kernel) (fl_bo rfl) ?_
    refine fl_Tq.ret rfl rfl rfl ?_
    unfold c0_areActual_v at k
    simp only [if_neg h1] at k
    exact k
noncomputable def c0_spreadOf_a10 (f : t2_F) (y : Int32) : Nat → Int32 × Int32
  | 0 => ((1000 : Int32), (0 : Int32))
  | k10 + 1 => (t2_min_v ((c0_spreadOf_a10 f y k10).1) (f (18 + 4 * k10) 3), t2_max_v ((c0_spreadOf_a10 f y k10).2) (f (18 + 4 * k10) 3))
noncomputable def c0_spreadOf_v (f : t2_F) (y : Int32) : Int32 := ((c0_spreadOf_a10 f y y.toInt.toNat).2) - ((c0_spreadOf_a10 f y y.toInt.toNat).1)
theorem c0_spreadOf_q {L : Nat} {xs : Nat → Int32} {f : t2_F} {l : t2_L} {Q : Option fl_V → fl_M → Prop} {y : Int32} (hy : 0 ≤ y.toInt ∧ y.toInt ≤ 16) (k : Q (some (.inl (c0_spreadOf_v f y))) (f, l)) : fl_Tq (pw_P L xs) 41 0 (fl_args (am_mxl (pw_P L xs) 41) [.inr (.inr (.inl (1, 1))), .inl (0 : Int32), .inl y]) [] (f, l) Q := by
  refine fl_Tq.cS (c := (1000 : Int32)) rfl (by decide +kernel) (fl_bo rfl) ?_
  refine fl_Tq.stp (pc' := 4) (lv' := [some (.inr (.inr (.inl (1, 1)))), some (.inl (0 : Int32)), some (.inl y), some (.inl (1000 : Int32)), none, none]) (st' := []) (m' := (f, l)) rfl rfl (fl_bo rfl) rfl ?_
  refine fl_Tq.cI (c := (0 : Int32)) rfl (by decide +kernel) (fl_bo rfl) ?_
  refine fl_Tq.stp (pc' := 7) (lv' := [some (.inr (.inr (.inl (1, 1)))), some (.inl (0 : Int32)), some (.inl y), some (.inl (1000 : Int32)), some (.inl (0 : Int32)), none]) (st' := []) (m' := (f, l)) rfl rfl (fl_bo rfl) rfl ?_
  refine fl_Tq.stp (pc' := 8) (lv' := [some (.inr (.inr (.inl (1, 1)))), some (.inl (0 : Int32)), some (.inl y), some (.inl (1000 : Int32)), some (.inl (0 : Int32)), none]) (st' := [.inl (0 : Int32)]) (m' := (f, l)) rfl rfl (fl_bo rfl) rfl ?_
  refine fl_Tq.stp (pc' := 10) (lv' := [some (.inr (.inr (.inl (1, 1)))), some (.inl (0 : Int32)), some (.inl y), some (.inl (1000 : Int32)), some (.inl (0 : Int32)), some (.inl (0 : Int32))]) (st' := []) (m' := (f, l)) rfl rfl (fl_bo rfl) rfl ?_
  have hs10 : ∀ k10 : Nat, k10 < y.toInt.toNat → fl_Tq (pw_P L xs) 41 10 [some (.inr (.inr (.inl (1, 1)))), some (.inl (0 : Int32)), some (.inl y), some (.inl ((c0_spreadOf_a10 f y (k10 + 1)).1)), some (.inl ((c0_spreadOf_a10 f y (k10 + 1)).2)), some (.inl (Int32.ofNat (k10 + 1)))] [] (f, l) Q → fl_Tq (pw_P L xs) 41 10 [some (.inr (.inr (.inl (1, 1)))), some (.inl (0 : Int32)), some (.inl y), some (.inl ((c0_spreadOf_a10 f y k10).1)), some (.inl ((c0_spreadOf_a10 f y k10).2)), some (.inl (Int32.ofNat k10))] [] (f, l) Q := by
    intro k10 hk10 hS
    refine fl_Tq.stp (pc' := 12) (lv' := [some (.inr (.inr (.inl (1, 1)))), some (.inl (0 : Int32)), some (.inl y), some (.inl ((c0_spreadOf_a10 f y k10).1)), some (.inl ((c0_spreadOf_a10 f y k10).2)), some (.inl (Int32.ofNat k10))]) (st' := [.inl (Int32.ofNat k10)]) (m' := (f, l)) rfl rfl (fl_bo rfl) rfl ?_
    refine fl_Tq.stp (pc' := 13) (lv' := [some (.inr (.inr (.inl (1, 1)))), some (.inl (0 : Int32)), some (.inl y), some (.inl ((c0_spreadOf_a10 f y k10).1)), some (.inl ((c0_spreadOf_a10 f y k10).2)), some (.inl (Int32.ofNat k10))]) (st' := [.inl y, .inl (Int32.ofNat k10)]) (m' := (f, l)) rfl rfl (fl_bo rfl) rfl ?_
    refine fl_Tq.jf rfl (fl_bo rfl) (c2_ge_f (t2_lk hk10 (t2_nn hy.1))) rfl ?_
    refine fl_Tq.stp (pc' := 17) (lv' := [some (.inr (.inr (.inl (1, 1)))), some (.inl (0 : Int32)), some (.inl y), some (.inl ((c0_spreadOf_a10 f y k10).1)), some (.inl ((c0_spreadOf_a10 f y k10).2)), some (.inl (Int32.ofNat k10))]) (st' := [.inl ((c0_spreadOf_a10 f y k10).1)]) (m' := (f, l)) rfl rfl (fl_bo rfl) rfl ?_
    refine fl_Tq.stp (pc' := 18) (lv' := [some (.inr (.inr (.inl (1, 1)))), some (.inl (0 : Int32)), some (.inl y), some (.inl ((c0_spreadOf_a10 f y k10).1)), some (.inl ((c0_spreadOf_a10 f y k10).2)), some (.inl (Int32.ofNat k10))]) (st' := [.inr (.inr (.inl (1, 1))), .inl ((c0_spreadOf_a10 f y k10).1)]) (m' := (f, l)) rfl rfl (fl_bo rfl) rfl ?_
    refine fl_Tq.stp (pc' := 21) (lv' := [some (.inr (.inr (.inl (1, 1)))), some (.inl (0 : Int32)), some (.inl y), some (.inl ((c0_spreadOf_a10 f y k10).1)), some (.inl ((c0_spreadOf_a10 f y k10).2)), some (.inl (Int32.ofNat k10))]) (st' := [.inr (.inr (.inl (2, 2))), .inl ((c0_spreadOf_a10 f y k10).1)]) (m' := (f, l)) rfl rfl (fl_bo rfl) rfl ?_
    refine fl_Tq.stp (pc' := 23) (lv' := [some (.inr (.inr (.inl (1, 1)))), some (.inl (0 : Int32)), some (.inl y), some (.inl ((c0_spreadOf_a10 f y k10).1)), some (.inl ((c0_spreadOf_a10 f y k10).2)), some (.inl (Int32.ofNat k10))]) (st' := [.inl (Int32.ofNat k10), .inr (.inr (.inl (2, 2))), .inl ((c0_spreadOf_a10 f y k10).1)]) (m' := (f, l)) rfl rfl (fl_bo rfl) rfl ?_
    refine fl_Tq.qld (p := 2) (τ := 2) (n := 16) (t := 18) (b := 16) (d := 3) (k := k10) rfl (fl_bo rfl) rfl (at_ofN (by omega)) (by omega) ?_
    show fl_Tq _ 41 24 [some (.inr (.inr (.inl (1, 1)))), some (.inl (0 : Int32)), some (.inl y), some (.inl ((c0_spreadOf_a10 f y k10).1)), some (.inl ((c0_spreadOf_a10 f y k10).2)), some (.inl (Int32.ofNat k10))] [.inr (.inr (.inl (18, 18 + 4 * k10))), .inl ((c0_spreadOf_a10 f y k10).1)] (f, l) _
    refine fl_Tq.gfV (k := 3) (v := f (18 + 4 * k10) 3) rfl (fl_oks_ok ⟨(t2_kc0 (by omega)), True.intro, True.intro⟩) rfl rfl ?_
    refine fl_Tq.cal rfl rfl (fl_bo rfl) rfl ?_
    refine t2_min_q  ?_
    show fl_Tq _ 41 30 [some (.inr (.inr (.inl (1, 1)))), some (.inl (0 : Int32)), some (.inl y), some (.inl ((c0_spreadOf_a10 f y k10).1)), some (.inl ((c0_spreadOf_a10 f y k10).2)), some (.inl (Int32.ofNat k10))] [.inl (t2_min_v ((c0_spreadOf_a10 f y k10).1) (f (18 + 4 * k10) 3))] (f, l) _
    refine fl_Tq.stp (pc' := 31) (lv' := [some (.inr (.inr (.inl (1, 1)))), some (.inl (0 : Int32)), some (.inl y), some (.inl (t2_min_v ((c0_spreadOf_a10 f y k10).1) (f (18 + 4 * k10) 3))), some (.inl ((c0_spreadOf_a10 f y k10).2)), some (.inl (Int32.ofNat k10))]) (st' := []) (m' := (f, l)) rfl rfl (fl_bo rfl) rfl ?_
    refine fl_Tq.stp (pc' := 33) (lv' := [some (.inr (.inr (.inl (1, 1)))), some (.inl (0 : Int32)), some (.inl y), some (.inl (t2_min_v ((c0_spreadOf_a10 f y k10).1) (f (18 + 4 * k10) 3))), some (.inl ((c0_spreadOf_a10 f y k10).2)), some (.inl (Int32.ofNat k10))]) (st' := [.inl ((c0_spreadOf_a10 f y k10).2)]) (m' := (f, l)) rfl rfl (fl_bo rfl) rfl ?_
    refine fl_Tq.stp (pc' := 34) (lv' := [some (.inr (.inr (.inl (1, 1)))), some (.inl (0 : Int32)), some (.inl y), some (.inl (t2_min_v ((c0_spreadOf_a10 f y k10).1) (f (18 + 4 * k10) 3))), some (.inl ((c0_spreadOf_a10 f y k10).2)), some (.inl (Int32.ofNat k10))]) (st' := [.inr (.inr (.inl (1, 1))), .inl ((c0_spreadOf_a10 f y k10).2)]) (m' := (f, l)) rfl rfl (fl_bo rfl) rfl ?_
    refine fl_Tq.stp (pc' := 37) (lv' := [some (.inr (.inr (.inl (1, 1)))), some (.inl (0 : Int32)), some (.inl y), some (.inl (t2_min_v ((c0_spreadOf_a10 f y k10).1) (f (18 + 4 * k10) 3))), some (.inl ((c0_spreadOf_a10 f y k10).2)), some (.inl (Int32.ofNat k10))]) (st' := [.inr (.inr (.inl (2, 2))), .inl ((c0_spreadOf_a10 f y k10).2)]) (m' := (f, l)) rfl rfl (fl_bo rfl) rfl ?_
    refine fl_Tq.stp (pc' := 39) (lv' := [some (.inr (.inr (.inl (1, 1)))), some (.inl (0 : Int32)), some (.inl y), some (.inl (t2_min_v ((c0_spreadOf_a10 f y k10).1) (f (18 + 4 * k10) 3))), some (.inl ((c0_spreadOf_a10 f y k10).2)), some (.inl (Int32.ofNat k10))]) (st' := [.inl (Int32.ofNat k10), .inr (.inr (.inl (2, 2))), .inl ((c0_spreadOf_a10 f y k10).2)]) (m' := (f, l)) rfl rfl (fl_bo rfl) rfl ?_
    refine fl_Tq.qld (p := 2) (τ := 2) (n := 16) (t := 18) (b := 16) (d := 3) (k := k10) rfl (fl_bo rfl) rfl (at_ofN (by omega)) (by omega) ?_
    show fl_Tq _ 41 40 [some (.inr (.inr (.inl (1, 1)))), some (.inl (0 : Int32)), some (.inl y), some (.inl (t2_min_v ((c0_spreadOf_a10 f y k10).1) (f (18 + 4 * k10) 3))), some (.inl ((c0_spreadOf_a10 f y k10).2)), some (.inl (Int32.ofNat k10))] [.inr (.inr (.inl (18, 18 + 4 * k10))), .inl ((c0_spreadOf_a10 f y k10).2)] (f, l) _
    refine fl_Tq.gfV (k := 3) (v := f (18 + 4 * k10) 3) rfl (fl_oks_ok ⟨(t2_kc0 (by omega)), True.intro, True.intro⟩) rfl rfl ?_
    refine fl_Tq.cal rfl rfl (fl_bo rfl) rfl ?_
    refine t2_max_q  ?_
    show fl_Tq _ 41 46 [some (.inr (.inr (.inl (1, 1)))), some (.inl (0 : Int32)), some (.inl y), some (.inl (t2_min_v ((c0_spreadOf_a10 f y k10).1) (f (18 + 4 * k10) 3))), some (.inl ((c0_spreadOf_a10 f y k10).2)), some (.inl (Int32.ofNat k10))] [.inl (t2_max_v ((c0_spreadOf_a10 f y k10).2) (f (18 + 4 * k10) 3))] (f, l) _
    refine fl_Tq.stp (pc' := 48) (lv' := [some (.inr (.inr (.inl (1, 1)))), some (.inl (0 : Int32)), some (.inl y), some (.inl (t2_min_v ((c0_spreadOf_a10 f y k10).1) (f (18 + 4 * k10) 3))), some (.inl (t2_max_v ((c0_spreadOf_a10 f y k10).2) (f (18 + 4 * k10) 3))), some (.inl (Int32.ofNat k10))]) (st' := []) (m' := (f, l)) rfl rfl (fl_bo rfl) rfl ?_
    refine fl_Tq.stp (pc' := 51) (lv' := [some (.inr (.inr (.inl (1, 1)))), some (.inl (0 : Int32)), some (.inl y), some (.inl (t2_min_v ((c0_spreadOf_a10 f y k10).1) (f (18 + 4 * k10) 3))), some (.inl (t2_max_v ((c0_spreadOf_a10 f y k10).2) (f (18 + 4 * k10) 3))), some (.inl ((Int32.ofNat k10) + (1 : Int32)))]) (st' := []) (m' := (f, l)) rfl rfl (fl_bo rfl) rfl ?_
    refine fl_Tq.stp (pc' := 10) (lv' := [some (.inr (.inr (.inl (1, 1)))), some (.inl (0 : Int32)), some (.inl y), some (.inl (t2_min_v ((c0_spreadOf_a10 f y k10).1) (f (18 + 4 * k10) 3))), some (.inl (t2_max_v ((c0_spreadOf_a10 f y k10).2) (f (18 + 4 * k10) 3))), some (.inl ((Int32.ofNat k10) + (1 : Int32)))]) (st' := []) (m' := (f, l)) rfl rfl (fl_bo rfl) rfl ?_
    have ea : c0_spreadOf_a10 f y (k10 + 1) = (t2_min_v ((c0_spreadOf_a10 f y k10).1) (f (18 + 4 * k10) 3), t2_max_v ((c0_spreadOf_a10 f y k10).2) (f (18 + 4 * k10) 3)) := by
      show ((t2_min_v ((c0_spreadOf_a10 f y k10).1) (f (18 + 4 * k10) 3), t2_max_v ((c0_spreadOf_a10 f y k10).2) (f (18 + 4 * k10) 3))) = _
      rfl
    rw [ea, ← t2_k1] at hS
    exact hS
  refine t2_for (S := fun k10 => fl_Tq (pw_P L xs) 41 10 [some (.inr (.inr (.inl (1, 1)))), some (.inl (0 : Int32)), some (.inl y), some (.inl ((c0_spreadOf_a10 f y k10).1)), some (.inl ((c0_spreadOf_a10 f y k10).2)), some (.inl (Int32.ofNat k10))] [] (f, l) Q) hs10 ?_
  show fl_Tq (pw_P L xs) 41 10 [some (.inr (.inr (.inl (1, 1)))), some (.inl (0 : Int32)), some (.inl y), some (.inl ((c0_spreadOf_a10 f y y.toInt.toNat).1)), some (.inl ((c0_spreadOf_a10 f y y.toInt.toNat).2)), some (.inl (Int32.ofNat y.toInt.toNat))] [] (f, l) _
  refine fl_Tq.stp (pc' := 12) (lv' := [some (.inr (.inr (.inl (1, 1)))), some (.inl (0 : Int32)), some (.inl y), some (.inl ((c0_spreadOf_a10 f y y.toInt.toNat).1)), some (.inl ((c0_spreadOf_a10 f y y.toInt.toNat).2)), some (.inl (Int32.ofNat y.toInt.toNat))]) (st' := [.inl (Int32.ofNat y.toInt.toNat)]) (m' := (f, l)) rfl rfl (fl_bo rfl) rfl ?_
  refine fl_Tq.stp (pc' := 13) (lv' := [some (.inr (.inr (.inl (1, 1)))), some (.inl (0 : Int32)), some (.inl y), some (.inl ((c0_spreadOf_a10 f y y.toInt.toNat).1)), some (.inl ((c0_spreadOf_a10 f y y.toInt.toNat).2)), some (.inl (Int32.ofNat y.toInt.toNat))]) (st' := [.inl y, .inl (Int32.ofNat y.toInt.toNat)]) (m' := (f, l)) rfl rfl (fl_bo rfl) rfl ?_
  refine fl_Tq.jt rfl (fl_bo rfl) (c2_ge_t (t2_ln (t2_nn hy.1))) rfl ?_
  refine fl_Tq.stp (pc' := 56) (lv' := [some (.inr (.inr (.inl (1, 1)))), some (.inl (0 : Int32)), some (.inl y), some (.inl ((c0_spreadOf_a10 f y y.toInt.toNat).1)), some (.inl ((c0_spreadOf_a10 f y y.toInt.toNat).2)), some (.inl (Int32.ofNat y.toInt.toNat))]) (st' := [.inl ((c0_spreadOf_a10 f y y.toInt.toNat).2)]) (m' := (f, l)) rfl rfl (fl_bo rfl) rfl ?_
  refine fl_Tq.stp (pc' := 57) (lv' := [some (.inr (.inr (.inl (1, 1)))), some (.inl (0 : Int32)), some (.inl y), some (.inl ((c0_spreadOf_a10 f y y.toInt.toNat).1)), some (.inl ((c0_spreadOf_a10 f y y.toInt.toNat).2)), some (.inl (Int32.ofNat y.toInt.toNat))]) (st' := [.inl ((c0_spreadOf_a10 f y y.toInt.toNat).1), .inl ((c0_spreadOf_a10 f y y.toInt.toNat).2)]) (m' := (f, l)) rfl rfl (fl_bo rfl) rfl ?_
  refine fl_Tq.stp (pc' := 58) (lv' := [some (.inr (.inr (.inl (1, 1)))), some (.inl (0 : Int32)), some (.inl y), some (.inl ((c0_spreadOf_a10 f y y.toInt.toNat).1)), some (.inl ((c0_spreadOf_a10 f y y.toInt.toNat).2)), some (.inl (Int32.ofNat y.toInt.toNat))]) (st' := [.inl (((c0_spreadOf_a10 f y y.toInt.toNat).2) - ((c0_spreadOf_a10 f y y.toInt.toNat).1))]) (m' := (f, l)) rfl rfl (fl_bo rfl) rfl ?_
  exact fl_Tq.ret rfl rfl rfl k
noncomputable def c0_partSpread_j4_0 (f : t2_F)  : Int32 := if (f 1 5).toInt = 0 then (-1 : Int32) else c0_spreadOf_v f (f 1 5)
noncomputable def c0_partSpread_v (f : t2_F) : Int32 := c0_partSpread_j4_0 f
theorem c0_partSpread_q {L : Nat} {xs : Nat → Int32} {f : t2_F} {l : t2_L} {Q : Option fl_V → fl_M → Prop}  (hc : 0 ≤ (f 1 5).toInt ∧ (f 1 5).toInt ≤ 16) (k : Q (some (.inl (c0_partSpread_v f))) (f, l)) : fl_Tq (pw_P L xs) 40 0 (fl_args (am_mxl (pw_P L xs) 40) [.inr (.inr (.inl (1, 1)))]) [] (f, l) Q := by
  refine fl_Tq.stp (pc' := 1) (lv' := [some (.inr (.inr (.inl (1, 1))))]) (st' := [.inr (.inr (.inl (1, 1)))]) (m' := (f, l)) rfl rfl (fl_bo rfl) rfl ?_
  refine fl_Tq.gfV (k := 5) (v := f 1 5) rfl (fl_bo rfl) rfl rfl ?_
  have hj33 : fl_Tq (pw_P L xs) 40 20 [some (.inr (.inr (.inl (1, 1))))] [.inl (c0_partSpread_j4_0 f)] (f, l) Q → fl_Tq (pw_P L xs) 40 4 [some (.inr (.inr (.inl (1, 1))))] [.inl (f 1 5)] (f, l) Q := by
    intro hJ
    by_cases h1 : (f 1 5).toInt = 0
    · refine fl_Tq.zf rfl (fl_bo rfl) (c1_ne_f h1) rfl ?_
      refine fl_Tq.cI (c := (-1 : Int32)) rfl (by decide +kernel) (fl_bo rfl) ?_
      refine fl_Tq.stp (pc' := 20) (lv' := [some (.inr (.inr (.inl (1, 1))))]) (st' := [.inl (-1 : Int32)]) (m' := (f, l)) rfl rfl (fl_bo rfl) rfl ?_
      have e0 : (c0_partSpread_j4_0 f) = (-1 : Int32) := by simp only [c0_partSpread_j4_0, if_pos h1]
      rw [e0] at hJ
      exact hJ
    · refine fl_Tq.zt rfl (fl_bo rfl) (c1_ne_t h1) rfl ?_
      refine fl_Tq.stp (pc' := 12) (lv' := [some (.inr (.inr (.inl (1, 1))))]) (st' := [.inr (.inr (.inl (1, 1)))]) (m' := (f, l)) rfl rfl (fl_bo rfl) rfl ?_
      refine fl_Tq.cI (c := (0 : Int32)) rfl (by decide +kernel) (fl_bo rfl) ?_
      refine fl_Tq.stp (pc' := 14) (lv' := [some (.inr (.inr (.inl (1, 1))))]) (st' := [.inr (.inr (.inl (1, 1))), .inl (0 : Int32), .inr (.inr (.inl (1, 1)))]) (m' := (f, l)) rfl rfl (fl_bo rfl) rfl ?_
      refine fl_Tq.gfV (k := 5) (v := f 1 5) rfl (fl_bo rfl) rfl rfl ?_
      refine fl_Tq.cal rfl rfl (fl_bo rfl) rfl ?_
      refine c0_spreadOf_q hc ?_
      show fl_Tq _ 40 20 [some (.inr (.inr (.inl (1, 1))))] [.inl (c0_spreadOf_v f (f 1 5))] (f, l) _
      have e0 : (c0_partSpread_j4_0 f) = c0_spreadOf_v f (f 1 5) := by simp only [c0_partSpread_j4_0, if_neg h1]
      rw [e0] at hJ
      exact hJ
  refine hj33 ?_
  show fl_Tq _ 40 20 [some (.inr (.inr (.inl (1, 1))))] [.inl (c0_partSpread_j4_0 f)] (f, l) _
  exact fl_Tq.ret rfl rfl rfl k
noncomputable def c0_worstCell_a8 (f : t2_F) (x : Int32) : Nat → Int32 × Int32
  | 0 => ((-1 : Int32), (2147483647 : Int32))
  | k8 + 1 => (if ((c0_worstCell_a8 f x k8).1).toInt = (-1 : Int32).toInt then Int32.ofNat k8 else (if (c0_ownLimit_v f k8 x).toInt < ((c0_worstCell_a8 f x k8).2).toInt then Int32.ofNat k8 else (c0_worstCell_a8 f x k8).1), if ((c0_worstCell_a8 f x k8).1).toInt = (-1 : Int32).toInt then c0_ownLimit_v f k8 x else (if (c0_ownLimit_v f k8 x).toInt < ((c0_worstCell_a8 f x k8).2).toInt then c0_ownLimit_v f k8 x else (c0_worstCell_a8 f x k8).2))
noncomputable def c0_worstCell_v (f : t2_F) (x : Int32) : Int32 := (c0_worstCell_a8 f x ((f 1 5).toInt.toNat)).1
theorem c0_worstCell_q {L : Nat} {xs : Nat → Int32} {f : t2_F} {l : t2_L} {Q : Option fl_V → fl_M → Prop} {x : Int32} (hc : 0 ≤ (f 1 5).toInt ∧ (f 1 5).toInt ≤ 16) (hz : 0 ≤ (f 3 6).toInt ∧ (f 3 6).toInt ≤ 6) (k : Q (some (.inl (c0_worstCell_v f x))) (f, l)) : fl_Tq (pw_P L xs) 51 0 (fl_args (am_mxl (pw_P L xs) 51) [.inr (.inr (.inl (1, 1))), .inl x]) [] (f, l) Q := by
  refine fl_Tq.cI (c := (-1 : Int32)) rfl (by decide +kernel) (fl_bo rfl) ?_
  refine fl_Tq.stp (pc' := 2) (lv' := [some (.inr (.inr (.inl (1, 1)))), some (.inl x), some (.inl (-1 : Int32)), none, none, none]) (st' := []) (m' := (f, l)) rfl rfl (fl_bo rfl) rfl ?_
  refine fl_Tq.stp (pc' := 4) (lv' := [some (.inr (.inr (.inl (1, 1)))), some (.inl x), some (.inl (-1 : Int32)), none, none, none]) (st' := [.inl (2147483647 : Int32)]) (m' := (f, l)) rfl rfl (fl_bo rfl) rfl ?_
  refine fl_Tq.stp (pc' := 5) (lv' := [some (.inr (.inr (.inl (1, 1)))), some (.inl x), some (.inl (-1 : Int32)), some (.inl (2147483647 : Int32)), none, none]) (st' := []) (m' := (f, l)) rfl rfl (fl_bo rfl) rfl ?_
  refine fl_Tq.cI (c := (0 : Int32)) rfl (by decide +kernel) (fl_bo rfl) ?_
  refine fl_Tq.stp (pc' := 8) (lv' := [some (.inr (.inr (.inl (1, 1)))), some (.inl x), some (.inl (-1 : Int32)), some (.inl (2147483647 : Int32)), some (.inl (0 : Int32)), none]) (st' := []) (m' := (f, l)) rfl rfl (fl_bo rfl) rfl ?_
  have hs8 : ∀ k8 : Nat, k8 < (f 1 5).toInt.toNat → fl_Tq (pw_P L xs) 51 8 [some (.inr (.inr (.inl (1, 1)))), some (.inl x), some (.inl ((c0_worstCell_a8 f x (k8 + 1)).1)), some (.inl ((c0_worstCell_a8 f x (k8 + 1)).2)), some (.inl (Int32.ofNat (k8 + 1))), none] [] (f, l) Q → fl_Tq (pw_P L xs) 51 8 [some (.inr (.inr (.inl (1, 1)))), some (.inl x), some (.inl ((c0_worstCell_a8 f x k8).1)), some (.inl ((c0_worstCell_a8 f x k8).2)), some (.inl (Int32.ofNat k8)), none] [] (f, l) Q := by
    intro k8 hk8 hS
    refine fl_Tq.stp (pc' := 10) (lv' := [some (.inr (.inr (.inl (1, 1)))), some (.inl x), some (.inl ((c0_worstCell_a8 f x k8).1)), some (.inl ((c0_worstCell_a8 f x k8).2)), some (.inl (Int32.ofNat k8)), none]) (st' := [.inl (Int32.ofNat k8)]) (m' := (f, l)) rfl rfl (fl_bo rfl) rfl ?_
    refine fl_Tq.stp (pc' := 11) (lv' := [some (.inr (.inr (.inl (1, 1)))), some (.inl x), some (.inl ((c0_worstCell_a8 f x k8).1)), some (.inl ((c0_worstCell_a8 f x k8).2)), some (.inl (Int32.ofNat k8)), none]) (st' := [.inr (.inr (.inl (1, 1))), .inl (Int32.ofNat k8)]) (m' := (f, l)) rfl rfl (fl_bo rfl) rfl ?_
    refine fl_Tq.gfV (k := 5) (v := f 1 5) rfl (fl_bo rfl) rfl rfl ?_
    refine fl_Tq.jf rfl (fl_bo rfl) (c2_ge_f (t2_lk hk8 (t2_nn hc.1))) rfl ?_
    refine fl_Tq.stp (pc' := 18) (lv' := [some (.inr (.inr (.inl (1, 1)))), some (.inl x), some (.inl ((c0_worstCell_a8 f x k8).1)), some (.inl ((c0_worstCell_a8 f x k8).2)), some (.inl (Int32.ofNat k8)), none]) (st' := [.inr (.inr (.inl (1, 1)))]) (m' := (f, l)) rfl rfl (fl_bo rfl) rfl ?_
    refine fl_Tq.stp (pc' := 21) (lv' := [some (.inr (.inr (.inl (1, 1)))), some (.inl x), some (.inl ((c0_worstCell_a8 f x k8).1)), some (.inl ((c0_worstCell_a8 f x k8).2)), some (.inl (Int32.ofNat k8)), none]) (st' := [.inr (.inr (.inl (2, 2)))]) (m' := (f, l)) rfl rfl (fl_bo rfl) rfl ?_
    refine fl_Tq.stp (pc' := 23) (lv' := [some (.inr (.inr (.inl (1, 1)))), some (.inl x), some (.inl ((c0_worstCell_a8 f x k8).1)), some (.inl ((c0_worstCell_a8 f x k8).2)), some (.inl (Int32.ofNat k8)), none]) (st' := [.inl (Int32.ofNat k8), .inr (.inr (.inl (2, 2)))]) (m' := (f, l)) rfl rfl (fl_bo rfl) rfl ?_
    refine fl_Tq.qld (p := 2) (τ := 2) (n := 16) (t := 18) (b := 16) (d := 3) (k := k8) rfl (fl_bo rfl) rfl (at_ofN (by omega)) (by omega) ?_
    show fl_Tq _ 51 24 [some (.inr (.inr (.inl (1, 1)))), some (.inl x), some (.inl ((c0_worstCell_a8 f x k8).1)), some (.inl ((c0_worstCell_a8 f x k8).2)), some (.inl (Int32.ofNat k8)), none] [.inr (.inr (.inl (18, 18 + 4 * k8)))] (f, l) _
    refine fl_Tq.stp (pc' := 25) (lv' := [some (.inr (.inr (.inl (1, 1)))), some (.inl x), some (.inl ((c0_worstCell_a8 f x k8).1)), some (.inl ((c0_worstCell_a8 f x k8).2)), some (.inl (Int32.ofNat k8)), none]) (st' := [.inl x, .inr (.inr (.inl (18, 18 + 4 * k8)))]) (m' := (f, l)) rfl rfl (fl_oks_ok ⟨(t2_kc0 (by omega)), True.intro⟩) rfl ?_
    refine fl_Tq.stp (pc' := 26) (lv' := [some (.inr (.inr (.inl (1, 1)))), some (.inl x), some (.inl ((c0_worstCell_a8 f x k8).1)), some (.inl ((c0_worstCell_a8 f x k8).2)), some (.inl (Int32.ofNat k8)), none]) (st' := [.inr (.inr (.inl (1, 1))), .inl x, .inr (.inr (.inl (18, 18 + 4 * k8)))]) (m' := (f, l)) rfl rfl (fl_oks_ok ⟨True.intro, (t2_kc0 (by omega)), True.intro⟩) rfl ?_
    refine fl_Tq.stp (pc' := 29) (lv' := [some (.inr (.inr (.inl (1, 1)))), some (.inl x), some (.inl ((c0_worstCell_a8 f x k8).1)), some (.inl ((c0_worstCell_a8 f x k8).2)), some (.inl (Int32.ofNat k8)), none]) (st' := [.inr (.inr (.inl (3, 3))), .inl x, .inr (.inr (.inl (18, 18 + 4 * k8)))]) (m' := (f, l)) rfl rfl (fl_oks_ok ⟨fl_okp (by decide +kernel) (by decide), True.intro, (t2_kc0 (by omega)), True.intro⟩) rfl ?_
    refine fl_Tq.cal rfl rfl (fl_oks_ok ⟨fl_okp (by decide +kernel) (by decide), True.intro, (t2_kc0 (by omega)), True.intro⟩) rfl ?_
    refine c0_ownLimit_q (by omega) hz ?_
    show fl_Tq _ 51 32 [some (.inr (.inr (.inl (1, 1)))), some (.inl x), some (.inl ((c0_worstCell_a8 f x k8).1)), some (.inl ((c0_worstCell_a8 f x k8).2)), some (.inl (Int32.ofNat k8)), none] [.inl (c0_ownLimit_v f k8 x)] (f, l) _
    refine fl_Tq.stp (pc' := 34) (lv' := [some (.inr (.inr (.inl (1, 1)))), some (.inl x), some (.inl ((c0_worstCell_a8 f x k8).1)), some (.inl ((c0_worstCell_a8 f x k8).2)), some (.inl (Int32.ofNat k8)), some (.inl (c0_ownLimit_v f k8 x))]) (st' := []) (m' := (f, l)) rfl rfl (fl_bo rfl) rfl ?_
    refine fl_Tq.stp (pc' := 35) (lv' := [some (.inr (.inr (.inl (1, 1)))), some (.inl x), some (.inl ((c0_worstCell_a8 f x k8).1)), some (.inl ((c0_worstCell_a8 f x k8).2)), some (.inl (Int32.ofNat k8)), some (.inl (c0_ownLimit_v f k8 x))]) (st' := [.inl ((c0_worstCell_a8 f x k8).1)]) (m' := (f, l)) rfl rfl (fl_bo rfl) rfl ?_
    refine fl_Tq.cI (c := (-1 : Int32)) rfl (by decide +kernel) (fl_bo rfl) ?_
    have hj34 : fl_Tq (pw_P L xs) 51 51 [some (.inr (.inr (.inl (1, 1)))), some (.inl x), some (.inl (if ((c0_worstCell_a8 f x k8).1).toInt = (-1 : Int32).toInt then Int32.ofNat k8 else (if (c0_ownLimit_v f k8 x).toInt < ((c0_worstCell_a8 f x k8).2).toInt then Int32.ofNat k8 else (c0_worstCell_a8 f x k8).1))), some (.inl (if ((c0_worstCell_a8 f x k8).1).toInt = (-1 : Int32).toInt then c0_ownLimit_v f k8 x else (if (c0_ownLimit_v f k8 x).toInt < ((c0_worstCell_a8 f x k8).2).toInt then c0_ownLimit_v f k8 x else (c0_worstCell_a8 f x k8).2))), some (.inl (Int32.ofNat k8)), some (.inl (c0_ownLimit_v f k8 x))] [] (f, l) Q → fl_Tq (pw_P L xs) 51 36 [some (.inr (.inr (.inl (1, 1)))), some (.inl x), some (.inl ((c0_worstCell_a8 f x k8).1)), some (.inl ((c0_worstCell_a8 f x k8).2)), some (.inl (Int32.ofNat k8)), some (.inl (c0_ownLimit_v f k8 x))] [.inl (-1 : Int32), .inl ((c0_worstCell_a8 f x k8).1)] (f, l) Q := by
      intro hJ
      by_cases h1 : ((c0_worstCell_a8 f x k8).1).toInt = (-1 : Int32).toInt
      · refine fl_Tq.jt rfl (fl_bo rfl) (c2_eq_t h1) rfl ?_
        refine fl_Tq.stp (pc' := 47) (lv' := [some (.inr (.inr (.inl (1, 1)))), some (.inl x), some (.inl ((c0_worstCell_a8 f x k8).1)), some (.inl ((c0_worstCell_a8 f x k8).2)), some (.inl (Int32.ofNat k8)), some (.inl (c0_ownLimit_v f k8 x))]) (st' := [.inl (Int32.ofNat k8)]) (m' := (f, l)) rfl rfl (fl_bo rfl) rfl ?_
        refine fl_Tq.stp (pc' := 48) (lv' := [some (.inr (.inr (.inl (1, 1)))), some (.inl x), some (.inl (Int32.ofNat k8)), some (.inl ((c0_worstCell_a8 f x k8).2)), some (.inl (Int32.ofNat k8)), some (.inl (c0_ownLimit_v f k8 x))]) (st' := []) (m' := (f, l)) rfl rfl (fl_bo rfl) rfl ?_
        refine fl_Tq.stp (pc' := 50) (lv' := [some (.inr (.inr (.inl (1, 1)))), some (.inl x), some (.inl (Int32.ofNat k8)), some (.inl ((c0_worstCell_a8 f x k8).2)), some (.inl (Int32.ofNat k8)), some (.inl (c0_ownLimit_v f k8 x))]) (st' := [.inl (c0_ownLimit_v f k8 x)]) (m' := (f, l)) rfl rfl (fl_bo rfl) rfl ?_
        refine fl_Tq.stp (pc' := 51) (lv' := [some (.inr (.inr (.inl (1, 1)))), some (.inl x), some (.inl (Int32.ofNat k8)), some (.inl (c0_ownLimit_v f k8 x)), some (.inl (Int32.ofNat k8)), some (.inl (c0_ownLimit_v f k8 x))]) (st' := []) (m' := (f, l)) rfl rfl (fl_bo rfl) rfl ?_
        have e0 : (if ((c0_worstCell_a8 f x k8).1).toInt = (-1 : Int32).toInt then Int32.ofNat k8 else (if (c0_ownLimit_v f k8 x).toInt < ((c0_worstCell_a8 f x k8).2).toInt then Int32.ofNat k8 else (c0_worstCell_a8 f x k8).1)) = Int32.ofNat k8 := by simp only [if_pos h1]
        have e1 : (if ((c0_worstCell_a8 f x k8).1).toInt = (-1 : Int32).toInt then c0_ownLimit_v f k8 x else (if (c0_ownLimit_v f k8 x).toInt < ((c0_worstCell_a8 f x k8).2).toInt then c0_ownLimit_v f k8 x else (c0_worstCell_a8 f x k8).2)) = c0_ownLimit_v f k8 x := by simp only [if_pos h1]
        rw [e0, e1] at hJ
        exact hJ
      · refine fl_Tq.jf rfl (fl_bo rfl) (c2_eq_f h1) rfl ?_
        refine fl_Tq.stp (pc' := 41) (lv' := [some (.inr (.inr (.inl (1, 1)))), some (.inl x), some (.inl ((c0_worstCell_a8 f x k8).1)), some (.inl ((c0_worstCell_a8 f x k8).2)), some (.inl (Int32.ofNat k8)), some (.inl (c0_ownLimit_v f k8 x))]) (st' := [.inl (c0_ownLimit_v f k8 x)]) (m' := (f, l)) rfl rfl (fl_bo rfl) rfl ?_
        refine fl_Tq.stp (pc' := 42) (lv' := [some (.inr (.inr (.inl (1, 1)))), some (.inl x), some (.inl ((c0_worstCell_a8 f x k8).1)), some (.inl ((c0_worstCell_a8 f x k8).2)), some (.inl (Int32.ofNat k8)), some (.inl (c0_ownLimit_v f k8 x))]) (st' := [.inl ((c0_worstCell_a8 f x k8).2), .inl (c0_ownLimit_v f k8 x)]) (m' := (f, l)) rfl rfl (fl_bo rfl) rfl ?_
        by_cases h2 : (c0_ownLimit_v f k8 x).toInt < ((c0_worstCell_a8 f x k8).2).toInt
        · refine fl_Tq.jf rfl (fl_bo rfl) (c2_ge_f h2) rfl ?_
          refine fl_Tq.stp (pc' := 47) (lv' := [some (.inr (.inr (.inl (1, 1)))), some (.inl x), some (.inl ((c0_worstCell_a8 f x k8).1)), some (.inl ((c0_worstCell_a8 f x k8).2)), some (.inl (Int32.ofNat k8)), some (.inl (c0_ownLimit_v f k8 x))]) (st' := [.inl (Int32.ofNat k8)]) (m' := (f, l)) rfl rfl (fl_bo rfl) rfl ?_
          refine fl_Tq.stp (pc' := 48) (lv' := [some (.inr (.inr (.inl (1, 1)))), some (.inl x), some (.inl (Int32.ofNat k8)), some (.inl ((c0_worstCell_a8 f x k8).2)), some (.inl (Int32.ofNat k8)), some (.inl (c0_ownLimit_v f k8 x))]) (st' := []) (m' := (f, l)) rfl rfl (fl_bo rfl) rfl ?_
          refine fl_Tq.stp (pc' := 50) (lv' := [some (.inr (.inr (.inl (1, 1)))), some (.inl x), some (.inl (Int32.ofNat k8)), some (.inl ((c0_worstCell_a8 f x k8).2)), some (.inl (Int32.ofNat k8)), some (.inl (c0_ownLimit_v f k8 x))]) (st' := [.inl (c0_ownLimit_v f k8 x)]) (m' := (f, l)) rfl rfl (fl_bo rfl) rfl ?_
          refine fl_Tq.stp (pc' := 51) (lv' := [some (.inr (.inr (.inl (1, 1)))), some (.inl x), some (.inl (Int32.ofNat k8)), some (.inl (c0_ownLimit_v f k8 x)), some (.inl (Int32.ofNat k8)), some (.inl (c0_ownLimit_v f k8 x))]) (st' := []) (m' := (f, l)) rfl rfl (fl_bo rfl) rfl ?_
          have e0 : (if ((c0_worstCell_a8 f x k8).1).toInt = (-1 : Int32).toInt then Int32.ofNat k8 else (if (c0_ownLimit_v f k8 x).toInt < ((c0_worstCell_a8 f x k8).2).toInt then Int32.ofNat k8 else (c0_worstCell_a8 f x k8).1)) = Int32.ofNat k8 := by simp only [if_neg h1, if_pos h2]
          have e1 : (if ((c0_worstCell_a8 f x k8).1).toInt = (-1 : Int32).toInt then c0_ownLimit_v f k8 x else (if (c0_ownLimit_v f k8 x).toInt < ((c0_worstCell_a8 f x k8).2).toInt then c0_ownLimit_v f k8 x else (c0_worstCell_a8 f x k8).2)) = c0_ownLimit_v f k8 x := by simp only [if_neg h1, if_pos h2]
          rw [e0, e1] at hJ
          exact hJ
        · refine fl_Tq.jt rfl (fl_bo rfl) (c2_ge_t h2) rfl ?_
          have e0 : (if ((c0_worstCell_a8 f x k8).1).toInt = (-1 : Int32).toInt then Int32.ofNat k8 else (if (c0_ownLimit_v f k8 x).toInt < ((c0_worstCell_a8 f x k8).2).toInt then Int32.ofNat k8 else (c0_worstCell_a8 f x k8).1)) = (c0_worstCell_a8 f x k8).1 := by simp only [if_neg h1, if_neg h2]
          have e1 : (if ((c0_worstCell_a8 f x k8).1).toInt = (-1 : Int32).toInt then c0_ownLimit_v f k8 x else (if (c0_ownLimit_v f k8 x).toInt < ((c0_worstCell_a8 f x k8).2).toInt then c0_ownLimit_v f k8 x else (c0_worstCell_a8 f x k8).2)) = (c0_worstCell_a8 f x k8).2 := by simp only [if_neg h1, if_neg h2]
          rw [e0, e1] at hJ
          exact hJ
    refine hj34 ?_
    show fl_Tq _ 51 51 [some (.inr (.inr (.inl (1, 1)))), some (.inl x), some (.inl (if ((c0_worstCell_a8 f x k8).1).toInt = (-1 : Int32).toInt then Int32.ofNat k8 else (if (c0_ownLimit_v f k8 x).toInt < ((c0_worstCell_a8 f x k8).2).toInt then Int32.ofNat k8 else (c0_worstCell_a8 f x k8).1))), some (.inl (if ((c0_worstCell_a8 f x k8).1).toInt = (-1 : Int32).toInt then c0_ownLimit_v f k8 x else (if (c0_ownLimit_v f k8 x).toInt < ((c0_worstCell_a8 f x k8).2).toInt then c0_ownLimit_v f k8 x else (c0_worstCell_a8 f x k8).2))), some (.inl (Int32.ofNat k8)), some (.inl (c0_ownLimit_v f k8 x))] [] (f, l) _
    refine fl_Tq.stp (pc' := 54) (lv' := [some (.inr (.inr (.inl (1, 1)))), some (.inl x), some (.inl (if ((c0_worstCell_a8 f x k8).1).toInt = (-1 : Int32).toInt then Int32.ofNat k8 else (if (c0_ownLimit_v f k8 x).toInt < ((c0_worstCell_a8 f x k8).2).toInt then Int32.ofNat k8 else (c0_worstCell_a8 f x k8).1))), some (.inl (if ((c0_worstCell_a8 f x k8).1).toInt = (-1 : Int32).toInt then c0_ownLimit_v f k8 x else (if (c0_ownLimit_v f k8 x).toInt < ((c0_worstCell_a8 f x k8).2).toInt then c0_ownLimit_v f k8 x else (c0_worstCell_a8 f x k8).2))), some (.inl ((Int32.ofNat k8) + (1 : Int32))), some (.inl (c0_ownLimit_v f k8 x))]) (st' := []) (m' := (f, l)) rfl rfl (fl_bo rfl) rfl ?_
    refine fl_Tq.stp (pc' := 8) (lv' := [some (.inr (.inr (.inl (1, 1)))), some (.inl x), some (.inl (if ((c0_worstCell_a8 f x k8).1).toInt = (-1 : Int32).toInt then Int32.ofNat k8 else (if (c0_ownLimit_v f k8 x).toInt < ((c0_worstCell_a8 f x k8).2).toInt then Int32.ofNat k8 else (c0_worstCell_a8 f x k8).1))), some (.inl (if ((c0_worstCell_a8 f x k8).1).toInt = (-1 : Int32).toInt then c0_ownLimit_v f k8 x else (if (c0_ownLimit_v f k8 x).toInt < ((c0_worstCell_a8 f x k8).2).toInt then c0_ownLimit_v f k8 x else (c0_worstCell_a8 f x k8).2))), some (.inl ((Int32.ofNat k8) + (1 : Int32))), some (.inl (c0_ownLimit_v f k8 x))]) (st' := []) (m' := (f, l)) rfl rfl (fl_bo rfl) rfl ?_
    have ea : c0_worstCell_a8 f x (k8 + 1) = (if ((c0_worstCell_a8 f x k8).1).toInt = (-1 : Int32).toInt then Int32.ofNat k8 else (if (c0_ownLimit_v f k8 x).toInt < ((c0_worstCell_a8 f x k8).2).toInt then Int32.ofNat k8 else (c0_worstCell_a8 f x k8).1), if ((c0_worstCell_a8 f x k8).1).toInt = (-1 : Int32).toInt then c0_ownLimit_v f k8 x else (if (c0_ownLimit_v f k8 x).toInt < ((c0_worstCell_a8 f x k8).2).toInt then c0_ownLimit_v f k8 x else (c0_worstCell_a8 f x k8).2)) := by
      show ((if ((c0_worstCell_a8 f x k8).1).toInt = (-1 : Int32).toInt then Int32.ofNat k8 else (if (c0_ownLimit_v f k8 x).toInt < ((c0_worstCell_a8 f x k8).2).toInt then Int32.ofNat k8 else (c0_worstCell_a8 f x k8).1), if ((c0_worstCell_a8 f x k8).1).toInt = (-1 : Int32).toInt then c0_ownLimit_v f k8 x else (if (c0_ownLimit_v f k8 x).toInt < ((c0_worstCell_a8 f x k8).2).toInt then c0_ownLimit_v f k8 x else (c0_worstCell_a8 f x k8).2))) = _
      rfl
    rw [ea, ← t2_k1] at hS
    exact fl_Tq.fg hS ⟨rfl, rfl, rfl, rfl, rfl, True.intro⟩
  refine t2_for (S := fun k8 => fl_Tq (pw_P L xs) 51 8 [some (.inr (.inr (.inl (1, 1)))), some (.inl x), some (.inl ((c0_worstCell_a8 f x k8).1)), some (.inl ((c0_worstCell_a8 f x k8).2)), some (.inl (Int32.ofNat k8)), none] [] (f, l) Q) hs8 ?_
  show fl_Tq (pw_P L xs) 51 8 [some (.inr (.inr (.inl (1, 1)))), some (.inl x), some (.inl ((c0_worstCell_a8 f x ((f 1 5).toInt.toNat)).1)), some (.inl ((c0_worstCell_a8 f x ((f 1 5).toInt.toNat)).2)), some (.inl (Int32.ofNat ((f 1 5).toInt.toNat))), none] [] (f, l) _
  refine fl_Tq.stp (pc' := 10) (lv' := [some (.inr (.inr (.inl (1, 1)))), some (.inl x), some (.inl ((c0_worstCell_a8 f x ((f 1 5).toInt.toNat)).1)), some (.inl ((c0_worstCell_a8 f x ((f 1 5).toInt.toNat)).2)), some (.inl (Int32.ofNat ((f 1 5).toInt.toNat))), none]) (st' := [.inl (Int32.ofNat ((f 1 5).toInt.toNat))]) (m' := (f, l)) rfl rfl (fl_bo rfl) rfl ?_
  refine fl_Tq.stp (pc' := 11) (lv' := [some (.inr (.inr (.inl (1, 1)))), some (.inl x), some (.inl ((c0_worstCell_a8 f x ((f 1 5).toInt.toNat)).1)), some (.inl ((c0_worstCell_a8 f x ((f 1 5).toInt.toNat)).2)), some (.inl (Int32.ofNat ((f 1 5).toInt.toNat))), none]) (st' := [.inr (.inr (.inl (1, 1))), .inl (Int32.ofNat ((f 1 5).toInt.toNat))]) (m' := (f, l)) rfl rfl (fl_bo rfl) rfl ?_
  refine fl_Tq.gfV (k := 5) (v := f 1 5) rfl (fl_bo rfl) rfl rfl ?_
  refine fl_Tq.jt rfl (fl_bo rfl) (c2_ge_t (t2_ln (t2_nn hc.1))) rfl ?_
  refine fl_Tq.stp (pc' := 58) (lv' := [some (.inr (.inr (.inl (1, 1)))), some (.inl x), some (.inl ((c0_worstCell_a8 f x ((f 1 5).toInt.toNat)).1)), some (.inl ((c0_worstCell_a8 f x ((f 1 5).toInt.toNat)).2)), some (.inl (Int32.ofNat ((f 1 5).toInt.toNat))), none]) (st' := [.inl ((c0_worstCell_a8 f x ((f 1 5).toInt.toNat)).1)]) (m' := (f, l)) rfl rfl (fl_bo rfl) rfl ?_
  exact fl_Tq.ret rfl rfl rfl k
noncomputable def c0_moveBus_j16_0 (f : t2_F)  : Int32 := if (c0_areActual_v f (5 : Int32)).toInt = 0 then (if (c0_areActual_v f (3 : Int32)).toInt = 0 then t2_fdiv_v (f 1 8) (2 : Int32) else t2_max_v (((f 1 8) + (((t2_max_v ((c0_packAt_v f (0 : Int32)) - (f 1 8)) (0 : Int32)) + (3 : Int32)) / (4 : Int32))) - (f 4 7)) (0 : Int32)) else c0_packAt_v f (0 : Int32)
noncomputable def c0_moveBus_v (f : t2_F) : Int32 := if (f 1 7).toInt = (1 : Int32).toInt then (if ((c0_moveBus_j16_0 f) * (1000 : Int32)).toInt < ((950 : Int32) * (c0_packAt_v f (0 : Int32))).toInt then (if ((c0_moveBus_j16_0 f) - (f 1 8)).toInt < (f 4 8).toInt then (1 : Int32) else (0 : Int32)) else (0 : Int32)) else (0 : Int32)
noncomputable def c0_moveBus_m (f : t2_F) : t2_F := if (f 1 7).toInt = (1 : Int32).toInt then (if ((c0_moveBus_j16_0 f) * (1000 : Int32)).toInt < ((950 : Int32) * (c0_packAt_v f (0 : Int32))).toInt then (if ((c0_moveBus_j16_0 f) - (f 1 8)).toInt < (f 4 8).toInt then fl_row f 1 (upd (f 1) 8 (c0_moveBus_j16_0 f)) else fl_row f 1 (upd (f 1) 8 (c0_moveBus_j16_0 f))) else fl_row f 1 (upd (upd (f 1) 8 (c0_moveBus_j16_0 f)) 7 (2 : Int32))) else fl_row f 1 (upd (f 1) 8 (c0_moveBus_j16_0 f))
theorem c0_moveBus_fr {f : t2_F}  {p : Nat} (e0 : p ≠ 1) : c0_moveBus_m f p = f p := by
  unfold c0_moveBus_m
  repeat' split
  all_goals first | rfl | simp only [fl_row_ne e0]
theorem c0_moveBus_q {L : Nat} {xs : Nat → Int32} {f : t2_F} {l : t2_L} {Q : Option fl_V → fl_M → Prop}  (hc : 0 ≤ (f 1 5).toInt ∧ (f 1 5).toInt ≤ 16) (k : Q (some (.inl (c0_moveBus_v f))) (c0_moveBus_m f, l)) : fl_Tq (pw_P L xs) 58 0 (fl_args (am_mxl (pw_P L xs) 58) [.inr (.inr (.inl (1, 1)))]) [] (f, l) Q := by
  refine fl_Tq.stp (pc' := 1) (lv' := [some (.inr (.inr (.inl (1, 1)))), none, none, none]) (st' := [.inr (.inr (.inl (1, 1)))]) (m' := (f, l)) rfl rfl (fl_bo rfl) rfl ?_
  refine fl_Tq.gfV (k := 8) (v := f 1 8) rfl (fl_bo rfl) rfl rfl ?_
  refine fl_Tq.stp (pc' := 5) (lv' := [some (.inr (.inr (.inl (1, 1)))), some (.inl (f 1 8)), none, none]) (st' := []) (m' := (f, l)) rfl rfl (fl_bo rfl) rfl ?_
  refine fl_Tq.stp (pc' := 6) (lv' := [some (.inr (.inr (.inl (1, 1)))), some (.inl (f 1 8)), none, none]) (st' := [.inr (.inr (.inl (1, 1)))]) (m' := (f, l)) rfl rfl (fl_bo rfl) rfl ?_
  refine fl_Tq.cI (c := (0 : Int32)) rfl (by decide +kernel) (fl_bo rfl) ?_
  refine fl_Tq.cal rfl rfl (fl_bo rfl) rfl ?_
  refine c0_packAt_q hc ?_
  show fl_Tq _ 58 10 [some (.inr (.inr (.inl (1, 1)))), some (.inl (f 1 8)), none, none] [.inl (c0_packAt_v f (0 : Int32))] (f, l) _
  refine fl_Tq.stp (pc' := 11) (lv' := [some (.inr (.inr (.inl (1, 1)))), some (.inl (f 1 8)), some (.inl (c0_packAt_v f (0 : Int32))), none]) (st' := []) (m' := (f, l)) rfl rfl (fl_bo rfl) rfl ?_
  refine fl_Tq.stp (pc' := 12) (lv' := [some (.inr (.inr (.inl (1, 1)))), some (.inl (f 1 8)), some (.inl (c0_packAt_v f (0 : Int32))), none]) (st' := [.inr (.inr (.inl (1, 1)))]) (m' := (f, l)) rfl rfl (fl_bo rfl) rfl ?_
  refine fl_Tq.cI (c := (5 : Int32)) rfl (by decide +kernel) (fl_bo rfl) ?_
  refine fl_Tq.cal rfl rfl (fl_bo rfl) rfl ?_
  refine c0_areActual_q  ?_
  show fl_Tq _ 58 16 [some (.inr (.inr (.inl (1, 1)))), some (.inl (f 1 8)), some (.inl (c0_packAt_v f (0 : Int32))), none] [.inl (c0_areActual_v f (5 : Int32))] (f, l) _
  have hj35 : fl_Tq (pw_P L xs) 58 90 [some (.inr (.inr (.inl (1, 1)))), some (.inl (f 1 8)), some (.inl (c0_packAt_v f (0 : Int32))), none] [] (fl_row f 1 (upd (f 1) 8 (c0_moveBus_j16_0 f)), l) Q → fl_Tq (pw_P L xs) 58 16 [some (.inr (.inr (.inl (1, 1)))), some (.inl (f 1 8)), some (.inl (c0_packAt_v f (0 : Int32))), none] [.inl (c0_areActual_v f (5 : Int32))] (f, l) Q := by
    intro hJ
    by_cases h1 : (c0_areActual_v f (5 : Int32)).toInt = 0
    · refine fl_Tq.zt rfl (fl_bo rfl) (c1_eq_t h1) rfl ?_
      refine fl_Tq.stp (pc' := 28) (lv' := [some (.inr (.inr (.inl (1, 1)))), some (.inl (f 1 8)), some (.inl (c0_packAt_v f (0 : Int32))), none]) (st' := [.inr (.inr (.inl (1, 1)))]) (m' := (f, l)) rfl rfl (fl_bo rfl) rfl ?_
      refine fl_Tq.cI (c := (3 : Int32)) rfl (by decide +kernel) (fl_bo rfl) ?_
      refine fl_Tq.cal rfl rfl (fl_bo rfl) rfl ?_
      refine c0_areActual_q  ?_
      show fl_Tq _ 58 32 [some (.inr (.inr (.inl (1, 1)))), some (.inl (f 1 8)), some (.inl (c0_packAt_v f (0 : Int32))), none] [.inl (c0_areActual_v f (3 : Int32))] (f, l) _
      by_cases h2 : (c0_areActual_v f (3 : Int32)).toInt = 0
      · refine fl_Tq.zt rfl (fl_bo rfl) (c1_eq_t h2) rfl ?_
        refine fl_Tq.stp (pc' := 79) (lv' := [some (.inr (.inr (.inl (1, 1)))), some (.inl (f 1 8)), some (.inl (c0_packAt_v f (0 : Int32))), none]) (st' := [.inr (.inr (.inl (1, 1)))]) (m' := (f, l)) rfl rfl (fl_bo rfl) rfl ?_
        refine fl_Tq.stp (pc' := 80) (lv' := [some (.inr (.inr (.inl (1, 1)))), some (.inl (f 1 8)), some (.inl (c0_packAt_v f (0 : Int32))), none]) (st' := [.inr (.inr (.inl (1, 1))), .inr (.inr (.inl (1, 1)))]) (m' := (f, l)) rfl rfl (fl_bo rfl) rfl ?_
        refine fl_Tq.gfV (k := 8) (v := f 1 8) rfl (fl_bo rfl) rfl rfl ?_
        refine fl_Tq.cI (c := (2 : Int32)) rfl (by decide +kernel) (fl_bo rfl) ?_
        refine fl_Tq.cal rfl rfl (fl_bo rfl) rfl ?_
        refine t2_fdiv_q (by decide +kernel) ?_
        show fl_Tq _ 58 87 [some (.inr (.inr (.inl (1, 1)))), some (.inl (f 1 8)), some (.inl (c0_packAt_v f (0 : Int32))), none] [.inl (t2_fdiv_v (f 1 8) (2 : Int32)), .inr (.inr (.inl (1, 1)))] (f, l) _
        refine fl_Tq.pfV (k := 8) (m' := (fl_row f 1 (upd (f 1) 8 (t2_fdiv_v (f 1 8) (2 : Int32))), l)) rfl (fl_bo rfl) rfl (t2_upn rfl) ?_
        have e0 : (fl_row f 1 (upd (f 1) 8 (c0_moveBus_j16_0 f))) = fl_row f 1 (upd (f 1) 8 (t2_fdiv_v (f 1 8) (2 : Int32))) := by
          simp only [c0_moveBus_j16_0, if_pos h1, if_pos h2]
        rw [e0] at hJ
        exact hJ
      · refine fl_Tq.zf rfl (fl_bo rfl) (c1_eq_f h2) rfl ?_
        refine fl_Tq.stp (pc' := 36) (lv' := [some (.inr (.inr (.inl (1, 1)))), some (.inl (f 1 8)), some (.inl (c0_packAt_v f (0 : Int32))), none]) (st' := [.inl (c0_packAt_v f (0 : Int32))]) (m' := (f, l)) rfl rfl (fl_bo rfl) rfl ?_
        refine fl_Tq.stp (pc' := 37) (lv' := [some (.inr (.inr (.inl (1, 1)))), some (.inl (f 1 8)), some (.inl (c0_packAt_v f (0 : Int32))), none]) (st' := [.inr (.inr (.inl (1, 1))), .inl (c0_packAt_v f (0 : Int32))]) (m' := (f, l)) rfl rfl (fl_bo rfl) rfl ?_
        refine fl_Tq.gfV (k := 8) (v := f 1 8) rfl (fl_bo rfl) rfl rfl ?_
        refine fl_Tq.stp (pc' := 41) (lv' := [some (.inr (.inr (.inl (1, 1)))), some (.inl (f 1 8)), some (.inl (c0_packAt_v f (0 : Int32))), none]) (st' := [.inl ((c0_packAt_v f (0 : Int32)) - (f 1 8))]) (m' := (f, l)) rfl rfl (fl_bo rfl) rfl ?_
        refine fl_Tq.cI (c := (0 : Int32)) rfl (by decide +kernel) (fl_bo rfl) ?_
        refine fl_Tq.cal rfl rfl (fl_bo rfl) rfl ?_
        refine t2_max_q  ?_
        show fl_Tq _ 58 45 [some (.inr (.inr (.inl (1, 1)))), some (.inl (f 1 8)), some (.inl (c0_packAt_v f (0 : Int32))), none] [.inl (t2_max_v ((c0_packAt_v f (0 : Int32)) - (f 1 8)) (0 : Int32))] (f, l) _
        refine fl_Tq.cI (c := (3 : Int32)) rfl (by decide +kernel) (fl_bo rfl) ?_
        refine fl_Tq.stp (pc' := 47) (lv' := [some (.inr (.inr (.inl (1, 1)))), some (.inl (f 1 8)), some (.inl (c0_packAt_v f (0 : Int32))), none]) (st' := [.inl ((t2_max_v ((c0_packAt_v f (0 : Int32)) - (f 1 8)) (0 : Int32)) + (3 : Int32))]) (m' := (f, l)) rfl rfl (fl_bo rfl) rfl ?_
        refine fl_Tq.cI (c := (4 : Int32)) rfl (by decide +kernel) (fl_bo rfl) ?_
        refine fl_Tq.dv rfl (fl_bo rfl) (by decide +kernel) ?_
        refine fl_Tq.stp (pc' := 50) (lv' := [some (.inr (.inr (.inl (1, 1)))), some (.inl (f 1 8)), some (.inl (c0_packAt_v f (0 : Int32))), some (.inl (((t2_max_v ((c0_packAt_v f (0 : Int32)) - (f 1 8)) (0 : Int32)) + (3 : Int32)) / (4 : Int32)))]) (st' := []) (m' := (f, l)) rfl rfl (fl_bo rfl) rfl ?_
        refine fl_Tq.stp (pc' := 51) (lv' := [some (.inr (.inr (.inl (1, 1)))), some (.inl (f 1 8)), some (.inl (c0_packAt_v f (0 : Int32))), some (.inl (((t2_max_v ((c0_packAt_v f (0 : Int32)) - (f 1 8)) (0 : Int32)) + (3 : Int32)) / (4 : Int32)))]) (st' := [.inr (.inr (.inl (1, 1)))]) (m' := (f, l)) rfl rfl (fl_bo rfl) rfl ?_
        refine fl_Tq.stp (pc' := 52) (lv' := [some (.inr (.inr (.inl (1, 1)))), some (.inl (f 1 8)), some (.inl (c0_packAt_v f (0 : Int32))), some (.inl (((t2_max_v ((c0_packAt_v f (0 : Int32)) - (f 1 8)) (0 : Int32)) + (3 : Int32)) / (4 : Int32)))]) (st' := [.inr (.inr (.inl (1, 1))), .inr (.inr (.inl (1, 1)))]) (m' := (f, l)) rfl rfl (fl_bo rfl) rfl ?_
        refine fl_Tq.gfV (k := 8) (v := f 1 8) rfl (fl_bo rfl) rfl rfl ?_
        refine fl_Tq.stp (pc' := 56) (lv' := [some (.inr (.inr (.inl (1, 1)))), some (.inl (f 1 8)), some (.inl (c0_packAt_v f (0 : Int32))), some (.inl (((t2_max_v ((c0_packAt_v f (0 : Int32)) - (f 1 8)) (0 : Int32)) + (3 : Int32)) / (4 : Int32)))]) (st' := [.inl (((t2_max_v ((c0_packAt_v f (0 : Int32)) - (f 1 8)) (0 : Int32)) + (3 : Int32)) / (4 : Int32)), .inl (f 1 8), .inr (.inr (.inl (1, 1)))]) (m' := (f, l)) rfl rfl (fl_bo rfl) rfl ?_
        refine fl_Tq.stp (pc' := 57) (lv' := [some (.inr (.inr (.inl (1, 1)))), some (.inl (f 1 8)), some (.inl (c0_packAt_v f (0 : Int32))), some (.inl (((t2_max_v ((c0_packAt_v f (0 : Int32)) - (f 1 8)) (0 : Int32)) + (3 : Int32)) / (4 : Int32)))]) (st' := [.inl ((f 1 8) + (((t2_max_v ((c0_packAt_v f (0 : Int32)) - (f 1 8)) (0 : Int32)) + (3 : Int32)) / (4 : Int32))), .inr (.inr (.inl (1, 1)))]) (m' := (f, l)) rfl rfl (fl_bo rfl) rfl ?_
        refine fl_Tq.stp (pc' := 58) (lv' := [some (.inr (.inr (.inl (1, 1)))), some (.inl (f 1 8)), some (.inl (c0_packAt_v f (0 : Int32))), some (.inl (((t2_max_v ((c0_packAt_v f (0 : Int32)) - (f 1 8)) (0 : Int32)) + (3 : Int32)) / (4 : Int32)))]) (st' := [.inr (.inr (.inl (1, 1))), .inl ((f 1 8) + (((t2_max_v ((c0_packAt_v f (0 : Int32)) - (f 1 8)) (0 : Int32)) + (3 : Int32)) / (4 : Int32))), .inr (.inr (.inl (1, 1)))]) (m' := (f, l)) rfl rfl (fl_bo rfl) rfl ?_
        refine fl_Tq.stp (pc' := 61) (lv' := [some (.inr (.inr (.inl (1, 1)))), some (.inl (f 1 8)), some (.inl (c0_packAt_v f (0 : Int32))), some (.inl (((t2_max_v ((c0_packAt_v f (0 : Int32)) - (f 1 8)) (0 : Int32)) + (3 : Int32)) / (4 : Int32)))]) (st' := [.inr (.inr (.inl (3, 3))), .inl ((f 1 8) + (((t2_max_v ((c0_packAt_v f (0 : Int32)) - (f 1 8)) (0 : Int32)) + (3 : Int32)) / (4 : Int32))), .inr (.inr (.inl (1, 1)))]) (m' := (f, l)) rfl rfl (fl_bo rfl) rfl ?_
        refine fl_Tq.stp (pc' := 64) (lv' := [some (.inr (.inr (.inl (1, 1)))), some (.inl (f 1 8)), some (.inl (c0_packAt_v f (0 : Int32))), some (.inl (((t2_max_v ((c0_packAt_v f (0 : Int32)) - (f 1 8)) (0 : Int32)) + (3 : Int32)) / (4 : Int32)))]) (st' := [.inr (.inr (.inl (4, 4))), .inl ((f 1 8) + (((t2_max_v ((c0_packAt_v f (0 : Int32)) - (f 1 8)) (0 : Int32)) + (3 : Int32)) / (4 : Int32))), .inr (.inr (.inl (1, 1)))]) (m' := (f, l)) rfl rfl (fl_bo rfl) rfl ?_
        refine fl_Tq.cB (c := (7 : Int32)) rfl (by decide +kernel) (fl_bo rfl) ?_
        refine fl_Tq.ldV (p := 4) (τ := 4) (n := 30) (z := (0, 0, 0)) (k := 7) (v := f 4 7) rfl (fl_bo rfl) rfl (by decide +kernel) (by decide) rfl ?_
        refine fl_Tq.stp (pc' := 68) (lv' := [some (.inr (.inr (.inl (1, 1)))), some (.inl (f 1 8)), some (.inl (c0_packAt_v f (0 : Int32))), some (.inl (((t2_max_v ((c0_packAt_v f (0 : Int32)) - (f 1 8)) (0 : Int32)) + (3 : Int32)) / (4 : Int32)))]) (st' := [.inl (((f 1 8) + (((t2_max_v ((c0_packAt_v f (0 : Int32)) - (f 1 8)) (0 : Int32)) + (3 : Int32)) / (4 : Int32))) - (f 4 7)), .inr (.inr (.inl (1, 1)))]) (m' := (f, l)) rfl rfl (fl_bo rfl) rfl ?_
        refine fl_Tq.cI (c := (0 : Int32)) rfl (by decide +kernel) (fl_bo rfl) ?_
        refine fl_Tq.cal rfl rfl (fl_bo rfl) rfl ?_
        refine t2_max_q  ?_
        show fl_Tq _ 58 72 [some (.inr (.inr (.inl (1, 1)))), some (.inl (f 1 8)), some (.inl (c0_packAt_v f (0 : Int32))), some (.inl (((t2_max_v ((c0_packAt_v f (0 : Int32)) - (f 1 8)) (0 : Int32)) + (3 : Int32)) / (4 : Int32)))] [.inl (t2_max_v (((f 1 8) + (((t2_max_v ((c0_packAt_v f (0 : Int32)) - (f 1 8)) (0 : Int32)) + (3 : Int32)) / (4 : Int32))) - (f 4 7)) (0 : Int32)), .inr (.inr (.inl (1, 1)))] (f, l) _
        refine fl_Tq.pfV (k := 8) (m' := (fl_row f 1 (upd (f 1) 8 (t2_max_v (((f 1 8) + (((t2_max_v ((c0_packAt_v f (0 : Int32)) - (f 1 8)) (0 : Int32)) + (3 : Int32)) / (4 : Int32))) - (f 4 7)) (0 : Int32))), l)) rfl (fl_bo rfl) rfl (t2_upn rfl) ?_
        refine fl_Tq.stp (pc' := 90) (lv' := [some (.inr (.inr (.inl (1, 1)))), some (.inl (f 1 8)), some (.inl (c0_packAt_v f (0 : Int32))), some (.inl (((t2_max_v ((c0_packAt_v f (0 : Int32)) - (f 1 8)) (0 : Int32)) + (3 : Int32)) / (4 : Int32)))]) (st' := []) (m' := (fl_row f 1 (upd (f 1) 8 (t2_max_v (((f 1 8) + (((t2_max_v ((c0_packAt_v f (0 : Int32)) - (f 1 8)) (0 : Int32)) + (3 : Int32)) / (4 : Int32))) - (f 4 7)) (0 : Int32))), l)) rfl rfl (fl_bo rfl) rfl ?_
        have e0 : (fl_row f 1 (upd (f 1) 8 (c0_moveBus_j16_0 f))) = fl_row f 1 (upd (f 1) 8 (t2_max_v (((f 1 8) + (((t2_max_v ((c0_packAt_v f (0 : Int32)) - (f 1 8)) (0 : Int32)) + (3 : Int32)) / (4 : Int32))) - (f 4 7)) (0 : Int32))) := by
          simp only [c0_moveBus_j16_0, if_pos h1, if_neg h2]
        rw [e0] at hJ
        exact fl_Tq.fg hJ ⟨rfl, rfl, rfl, True.intro⟩
    · refine fl_Tq.zf rfl (fl_bo rfl) (c1_eq_f h1) rfl ?_
      refine fl_Tq.stp (pc' := 20) (lv' := [some (.inr (.inr (.inl (1, 1)))), some (.inl (f 1 8)), some (.inl (c0_packAt_v f (0 : Int32))), none]) (st' := [.inr (.inr (.inl (1, 1)))]) (m' := (f, l)) rfl rfl (fl_bo rfl) rfl ?_
      refine fl_Tq.stp (pc' := 21) (lv' := [some (.inr (.inr (.inl (1, 1)))), some (.inl (f 1 8)), some (.inl (c0_packAt_v f (0 : Int32))), none]) (st' := [.inl (c0_packAt_v f (0 : Int32)), .inr (.inr (.inl (1, 1)))]) (m' := (f, l)) rfl rfl (fl_bo rfl) rfl ?_
      refine fl_Tq.pfV (k := 8) (m' := (fl_row f 1 (upd (f 1) 8 (c0_packAt_v f (0 : Int32))), l)) rfl (fl_bo rfl) rfl (t2_upn rfl) ?_
      refine fl_Tq.stp (pc' := 90) (lv' := [some (.inr (.inr (.inl (1, 1)))), some (.inl (f 1 8)), some (.inl (c0_packAt_v f (0 : Int32))), none]) (st' := []) (m' := (fl_row f 1 (upd (f 1) 8 (c0_packAt_v f (0 : Int32))), l)) rfl rfl (fl_bo rfl) rfl ?_
      have e0 : (fl_row f 1 (upd (f 1) 8 (c0_moveBus_j16_0 f))) = fl_row f 1 (upd (f 1) 8 (c0_packAt_v f (0 : Int32))) := by
        simp only [c0_moveBus_j16_0, if_neg h1]
      rw [e0] at hJ
      exact hJ
  refine hj35 ?_
  show fl_Tq _ 58 90 [some (.inr (.inr (.inl (1, 1)))), some (.inl (f 1 8)), some (.inl (c0_packAt_v f (0 : Int32))), none] [] (fl_row f 1 (upd (f 1) 8 (c0_moveBus_j16_0 f)), l) _
  refine fl_Tq.stp (pc' := 91) (lv' := [some (.inr (.inr (.inl (1, 1)))), some (.inl (f 1 8)), some (.inl (c0_packAt_v f (0 : Int32))), none]) (st' := [.inr (.inr (.inl (1, 1)))]) (m' := (fl_row f 1 (upd (f 1) 8 (c0_moveBus_j16_0 f)), l)) rfl rfl (fl_bo rfl) rfl ?_
  refine fl_Tq.gfV (k := 7) (v := f 1 7) rfl (fl_bo rfl) rfl (by simp only [fl_row_self, upd_ne (by decide : 7 ≠ 8)]) ?_
  refine fl_Tq.cI (c := (1 : Int32)) rfl (by decide +kernel) (fl_bo rfl) ?_
  by_cases h3 : (f 1 7).toInt = (1 : Int32).toInt
  · refine fl_Tq.jt rfl (fl_bo rfl) (c2_eq_t h3) rfl ?_
    refine fl_Tq.stp (pc' := 101) (lv' := [some (.inr (.inr (.inl (1, 1)))), some (.inl (f 1 8)), some (.inl (c0_packAt_v f (0 : Int32))), none]) (st' := [.inr (.inr (.inl (1, 1)))]) (m' := (fl_row f 1 (upd (f 1) 8 (c0_moveBus_j16_0 f)), l)) rfl rfl (fl_bo rfl) rfl ?_
    refine fl_Tq.gfV (k := 8) (v := c0_moveBus_j16_0 f) rfl (fl_bo rfl) rfl (by simp only [fl_row_self, upd_self]) ?_
    refine fl_Tq.cS (c := (1000 : Int32)) rfl (by decide +kernel) (fl_bo rfl) ?_
    refine fl_Tq.stp (pc' := 108) (lv' := [some (.inr (.inr (.inl (1, 1)))), some (.inl (f 1 8)), some (.inl (c0_packAt_v f (0 : Int32))), none]) (st' := [.inl ((c0_moveBus_j16_0 f) * (1000 : Int32))]) (m' := (fl_row f 1 (upd (f 1) 8 (c0_moveBus_j16_0 f)), l)) rfl rfl (fl_bo rfl) rfl ?_
    refine fl_Tq.cS (c := (950 : Int32)) rfl (by decide +kernel) (fl_bo rfl) ?_
    refine fl_Tq.stp (pc' := 112) (lv' := [some (.inr (.inr (.inl (1, 1)))), some (.inl (f 1 8)), some (.inl (c0_packAt_v f (0 : Int32))), none]) (st' := [.inl (c0_packAt_v f (0 : Int32)), .inl (950 : Int32), .inl ((c0_moveBus_j16_0 f) * (1000 : Int32))]) (m' := (fl_row f 1 (upd (f 1) 8 (c0_moveBus_j16_0 f)), l)) rfl rfl (fl_bo rfl) rfl ?_
    refine fl_Tq.stp (pc' := 113) (lv' := [some (.inr (.inr (.inl (1, 1)))), some (.inl (f 1 8)), some (.inl (c0_packAt_v f (0 : Int32))), none]) (st' := [.inl ((950 : Int32) * (c0_packAt_v f (0 : Int32))), .inl ((c0_moveBus_j16_0 f) * (1000 : Int32))]) (m' := (fl_row f 1 (upd (f 1) 8 (c0_moveBus_j16_0 f)), l)) rfl rfl (fl_bo rfl) rfl ?_
    by_cases h4 : ((c0_moveBus_j16_0 f) * (1000 : Int32)).toInt < ((950 : Int32) * (c0_packAt_v f (0 : Int32))).toInt
    · refine fl_Tq.jt rfl (fl_bo rfl) (c2_lt_t h4) rfl ?_
      refine fl_Tq.stp (pc' := 124) (lv' := [some (.inr (.inr (.inl (1, 1)))), some (.inl (f 1 8)), some (.inl (c0_packAt_v f (0 : Int32))), none]) (st' := [.inr (.inr (.inl (1, 1)))]) (m' := (fl_row f 1 (upd (f 1) 8 (c0_moveBus_j16_0 f)), l)) rfl rfl (fl_bo rfl) rfl ?_
      refine fl_Tq.gfV (k := 8) (v := c0_moveBus_j16_0 f) rfl (fl_bo rfl) rfl (by simp only [fl_row_self, upd_self]) ?_
      refine fl_Tq.stp (pc' := 128) (lv' := [some (.inr (.inr (.inl (1, 1)))), some (.inl (f 1 8)), some (.inl (c0_packAt_v f (0 : Int32))), none]) (st' := [.inl (f 1 8), .inl (c0_moveBus_j16_0 f)]) (m' := (fl_row f 1 (upd (f 1) 8 (c0_moveBus_j16_0 f)), l)) rfl rfl (fl_bo rfl) rfl ?_
      refine fl_Tq.stp (pc' := 129) (lv' := [some (.inr (.inr (.inl (1, 1)))), some (.inl (f 1 8)), some (.inl (c0_packAt_v f (0 : Int32))), none]) (st' := [.inl ((c0_moveBus_j16_0 f) - (f 1 8))]) (m' := (fl_row f 1 (upd (f 1) 8 (c0_moveBus_j16_0 f)), l)) rfl rfl (fl_bo rfl) rfl ?_
      refine fl_Tq.stp (pc' := 130) (lv' := [some (.inr (.inr (.inl (1, 1)))), some (.inl (f 1 8)), some (.inl (c0_packAt_v f (0 : Int32))), none]) (st' := [.inr (.inr (.inl (1, 1))), .inl ((c0_moveBus_j16_0 f) - (f 1 8))]) (m' := (fl_row f 1 (upd (f 1) 8 (c0_moveBus_j16_0 f)), l)) rfl rfl (fl_bo rfl) rfl ?_
      refine fl_Tq.stp (pc' := 133) (lv' := [some (.inr (.inr (.inl (1, 1)))), some (.inl (f 1 8)), some (.inl (c0_packAt_v f (0 : Int32))), none]) (st' := [.inr (.inr (.inl (3, 3))), .inl ((c0_moveBus_j16_0 f) - (f 1 8))]) (m' := (fl_row f 1 (upd (f 1) 8 (c0_moveBus_j16_0 f)), l)) rfl rfl (fl_bo rfl) rfl ?_
      refine fl_Tq.stp (pc' := 136) (lv' := [some (.inr (.inr (.inl (1, 1)))), some (.inl (f 1 8)), some (.inl (c0_packAt_v f (0 : Int32))), none]) (st' := [.inr (.inr (.inl (4, 4))), .inl ((c0_moveBus_j16_0 f) - (f 1 8))]) (m' := (fl_row f 1 (upd (f 1) 8 (c0_moveBus_j16_0 f)), l)) rfl rfl (fl_bo rfl) rfl ?_
      refine fl_Tq.cB (c := (8 : Int32)) rfl (by decide +kernel) (fl_bo rfl) ?_
      refine fl_Tq.ldV (p := 4) (τ := 4) (n := 30) (z := (0, 0, 0)) (k := 8) (v := f 4 8) rfl (fl_bo rfl) rfl (by decide +kernel) (by decide) (by simp only [fl_row_ne (by decide : 4 ≠ 1)]) ?_
      by_cases h5 : ((c0_moveBus_j16_0 f) - (f 1 8)).toInt < (f 4 8).toInt
      · refine fl_Tq.jf rfl (fl_bo rfl) (c2_ge_f h5) rfl ?_
        refine fl_Tq.cI (c := (1 : Int32)) rfl (by decide +kernel) (fl_bo rfl) ?_
        refine fl_Tq.stp (pc' := 147) (lv' := [some (.inr (.inr (.inl (1, 1)))), some (.inl (f 1 8)), some (.inl (c0_packAt_v f (0 : Int32))), none]) (st' := [.inl (1 : Int32)]) (m' := (fl_row f 1 (upd (f 1) 8 (c0_moveBus_j16_0 f)), l)) rfl rfl (fl_bo rfl) rfl ?_
        refine fl_Tq.ret rfl rfl rfl ?_
        unfold c0_moveBus_v at k
        unfold c0_moveBus_m at k
        simp only [if_pos h3, if_pos h4, if_pos h5] at k
        exact k
      · refine fl_Tq.jt rfl (fl_bo rfl) (c2_ge_t h5) rfl ?_
        refine fl_Tq.cI (c := (0 : Int32)) rfl (by decide +kernel) (fl_bo rfl) ?_
        refine fl_Tq.ret rfl rfl rfl ?_
        unfold c0_moveBus_v at k
        unfold c0_moveBus_m at k
        simp only [if_pos h3, if_pos h4, if_neg h5] at k
        exact k
    · refine fl_Tq.jf rfl (fl_bo rfl) (c2_lt_f h4) rfl ?_
      refine fl_Tq.stp (pc' := 117) (lv' := [some (.inr (.inr (.inl (1, 1)))), some (.inl (f 1 8)), some (.inl (c0_packAt_v f (0 : Int32))), none]) (st' := [.inr (.inr (.inl (1, 1)))]) (m' := (fl_row f 1 (upd (f 1) 8 (c0_moveBus_j16_0 f)), l)) rfl rfl (fl_bo rfl) rfl ?_
      refine fl_Tq.cI (c := (2 : Int32)) rfl (by decide +kernel) (fl_bo rfl) ?_
      refine fl_Tq.pfV (k := 7) (m' := (fl_row f 1 (upd (upd (f 1) 8 (c0_moveBus_j16_0 f)) 7 (2 : Int32)), l)) rfl (fl_bo rfl) rfl (t2_upr) ?_
      refine fl_Tq.cI (c := (0 : Int32)) rfl (by decide +kernel) (fl_bo rfl) ?_
      refine fl_Tq.ret rfl rfl rfl ?_
      unfold c0_moveBus_v at k
      unfold c0_moveBus_m at k
      simp only [if_pos h3, if_neg h4] at k
      exact k
  · refine fl_Tq.jf rfl (fl_bo rfl) (c2_eq_f h3) rfl ?_
    refine fl_Tq.cI (c := (0 : Int32)) rfl (by decide +kernel) (fl_bo rfl) ?_
    refine fl_Tq.ret rfl rfl rfl ?_
    unfold c0_moveBus_v at k
    unfold c0_moveBus_m at k
    simp only [if_neg h3] at k
    exact k
noncomputable def c0_blame_v (x y : Int32) : Int32 := (1 : Int32) <<< (x &&& 31)
noncomputable def c0_blame_m (f : t2_F) (x y : Int32) : t2_F := fl_row f 12 (upd (f 12) x.toInt.toNat y)
theorem c0_blame_fr {f : t2_F} {x y : Int32} {p : Nat} (e0 : p ≠ 12) : c0_blame_m f x y p = f p := by
  unfold c0_blame_m
  repeat' split
  all_goals first | rfl | simp only [fl_row_ne e0]
theorem c0_blame_q {L : Nat} {xs : Nat → Int32} {f : t2_F} {l : t2_L} {Q : Option fl_V → fl_M → Prop} {x y : Int32} (hx : 0 ≤ x.toInt ∧ x.toInt ≤ 3) (k : Q (some (.inl (c0_blame_v x y))) (c0_blame_m f x y, l)) : fl_Tq (pw_P L xs) 95 0 (fl_args (am_mxl (pw_P L xs) 95) [.inr (.inr (.inl (10, 10))), .inl x, .inl y]) [] (f, l) Q := by
  refine fl_Tq.stp (pc' := 1) (lv' := [some (.inr (.inr (.inl (10, 10)))), some (.inl x), some (.inl y)]) (st' := [.inr (.inr (.inl (10, 10)))]) (m' := (f, l)) rfl rfl (fl_bo rfl) rfl ?_
  refine fl_Tq.stp (pc' := 4) (lv' := [some (.inr (.inr (.inl (10, 10)))), some (.inl x), some (.inl y)]) (st' := [.inr (.inr (.inl (12, 12)))]) (m' := (f, l)) rfl rfl (fl_bo rfl) rfl ?_
  refine fl_Tq.stp (pc' := 5) (lv' := [some (.inr (.inr (.inl (10, 10)))), some (.inl x), some (.inl y)]) (st' := [.inl x, .inr (.inr (.inl (12, 12)))]) (m' := (f, l)) rfl rfl (fl_bo rfl) rfl ?_
  refine fl_Tq.stp (pc' := 6) (lv' := [some (.inr (.inr (.inl (10, 10)))), some (.inl x), some (.inl y)]) (st' := [.inl y, .inl x, .inr (.inr (.inl (12, 12)))]) (m' := (f, l)) rfl rfl (fl_bo rfl) rfl ?_
  refine fl_Tq.svV (p := 12) (τ := 12) (n := 4) (z := (0, 0, 0)) (k := x.toInt.toNat) (m' := (fl_row f 12 (upd (f 12) x.toInt.toNat y), l)) rfl (fl_bo rfl) rfl (t2_nn hx.1) (by omega) (t2_upn rfl) ?_
  refine fl_Tq.cI (c := (1 : Int32)) rfl (by decide +kernel) (fl_bo rfl) ?_
  refine fl_Tq.stp (pc' := 9) (lv' := [some (.inr (.inr (.inl (10, 10)))), some (.inl x), some (.inl y)]) (st' := [.inl x, .inl (1 : Int32)]) (m' := (fl_row f 12 (upd (f 12) x.toInt.toNat y), l)) rfl rfl (fl_bo rfl) rfl ?_
  refine fl_Tq.stp (pc' := 10) (lv' := [some (.inr (.inr (.inl (10, 10)))), some (.inl x), some (.inl y)]) (st' := [.inl ((1 : Int32) <<< (x &&& 31))]) (m' := (fl_row f 12 (upd (f 12) x.toInt.toNat y), l)) rfl rfl (fl_bo rfl) rfl ?_
  exact fl_Tq.ret rfl rfl rfl k
noncomputable def c0_leakBit_j2_0 (f : t2_F) (x : Int32) : Int32 := if x.toInt = 0 then (0 : Int32) else t2_min_v ((f 10 5) + (1 : Int32)) (3 : Int32)
noncomputable def c0_leakBit_j27_0 (f : t2_F) (x : Int32) : Int32 := if (c0_leakBit_j2_0 f x).toInt = (3 : Int32).toInt then (64 : Int32) else (0 : Int32)
noncomputable def c0_leakBit_v (f : t2_F) (x : Int32) : Int32 := c0_leakBit_j27_0 f x
noncomputable def c0_leakBit_m (f : t2_F) (x : Int32) : t2_F := fl_row f 10 (upd (f 10) 5 (c0_leakBit_j2_0 f x))
theorem c0_leakBit_fr {f : t2_F} {x : Int32} {p : Nat} (e0 : p ≠ 10) : c0_leakBit_m f x p = f p := by
  unfold c0_leakBit_m
  repeat' split
  all_goals first | rfl | simp only [fl_row_ne e0]
theorem c0_leakBit_q {L : Nat} {xs : Nat → Int32} {f : t2_F} {l : t2_L} {Q : Option fl_V → fl_M → Prop} {x : Int32}  (k : Q (some (.inl (c0_leakBit_v f x))) (c0_leakBit_m f x, l)) : fl_Tq (pw_P L xs) 96 0 (fl_args (am_mxl (pw_P L xs) 96) [.inr (.inr (.inl (10, 10))), .inl x]) [] (f, l) Q := by
  refine fl_Tq.stp (pc' := 1) (lv' := [some (.inr (.inr (.inl (10, 10)))), some (.inl x)]) (st' := [.inr (.inr (.inl (10, 10)))]) (m' := (f, l)) rfl rfl (fl_bo rfl) rfl ?_
  refine fl_Tq.stp (pc' := 2) (lv' := [some (.inr (.inr (.inl (10, 10)))), some (.inl x)]) (st' := [.inl x, .inr (.inr (.inl (10, 10)))]) (m' := (f, l)) rfl rfl (fl_bo rfl) rfl ?_
  have hj36 : fl_Tq (pw_P L xs) 96 19 [some (.inr (.inr (.inl (10, 10)))), some (.inl x)] [.inl (c0_leakBit_j2_0 f x), .inr (.inr (.inl (10, 10)))] (f, l) Q → fl_Tq (pw_P L xs) 96 2 [some (.inr (.inr (.inl (10, 10)))), some (.inl x)] [.inl x, .inr (.inr (.inl (10, 10)))] (f, l) Q := by
    intro hJ
    by_cases h1 : x.toInt = 0
    · refine fl_Tq.zt rfl (fl_bo rfl) (c1_eq_t h1) rfl ?_
      refine fl_Tq.cI (c := (0 : Int32)) rfl (by decide +kernel) (fl_bo rfl) ?_
      have e0 : (c0_leakBit_j2_0 f x) = (0 : Int32) := by simp only [c0_leakBit_j2_0, if_pos h1]
      rw [e0] at hJ
      exact hJ
    · refine fl_Tq.zf rfl (fl_bo rfl) (c1_eq_f h1) rfl ?_
      refine fl_Tq.stp (pc' := 6) (lv' := [some (.inr (.inr (.inl (10, 10)))), some (.inl x)]) (st' := [.inr (.inr (.inl (10, 10))), .inr (.inr (.inl (10, 10)))]) (m' := (f, l)) rfl rfl (fl_bo rfl) rfl ?_
      refine fl_Tq.gfV (k := 5) (v := f 10 5) rfl (fl_bo rfl) rfl rfl ?_
      refine fl_Tq.cI (c := (1 : Int32)) rfl (by decide +kernel) (fl_bo rfl) ?_
      refine fl_Tq.stp (pc' := 11) (lv' := [some (.inr (.inr (.inl (10, 10)))), some (.inl x)]) (st' := [.inl ((f 10 5) + (1 : Int32)), .inr (.inr (.inl (10, 10)))]) (m' := (f, l)) rfl rfl (fl_bo rfl) rfl ?_
      refine fl_Tq.cI (c := (3 : Int32)) rfl (by decide +kernel) (fl_bo rfl) ?_
      refine fl_Tq.cal rfl rfl (fl_bo rfl) rfl ?_
      refine t2_min_q  ?_
      show fl_Tq _ 96 15 [some (.inr (.inr (.inl (10, 10)))), some (.inl x)] [.inl (t2_min_v ((f 10 5) + (1 : Int32)) (3 : Int32)), .inr (.inr (.inl (10, 10)))] (f, l) _
      refine fl_Tq.stp (pc' := 19) (lv' := [some (.inr (.inr (.inl (10, 10)))), some (.inl x)]) (st' := [.inl (t2_min_v ((f 10 5) + (1 : Int32)) (3 : Int32)), .inr (.inr (.inl (10, 10)))]) (m' := (f, l)) rfl rfl (fl_bo rfl) rfl ?_
      have e0 : (c0_leakBit_j2_0 f x) = t2_min_v ((f 10 5) + (1 : Int32)) (3 : Int32) := by simp only [c0_leakBit_j2_0, if_neg h1]
      rw [e0] at hJ
      exact hJ
  refine hj36 ?_
  show fl_Tq _ 96 19 [some (.inr (.inr (.inl (10, 10)))), some (.inl x)] [.inl (c0_leakBit_j2_0 f x), .inr (.inr (.inl (10, 10)))] (f, l) _
  refine fl_Tq.pfV (k := 5) (m' := (fl_row f 10 (upd (f 10) 5 (c0_leakBit_j2_0 f x)), l)) rfl (fl_bo rfl) rfl (t2_upn rfl) ?_
  refine fl_Tq.stp (pc' := 23) (lv' := [some (.inr (.inr (.inl (10, 10)))), some (.inl x)]) (st' := [.inr (.inr (.inl (10, 10)))]) (m' := (fl_row f 10 (upd (f 10) 5 (c0_leakBit_j2_0 f x)), l)) rfl rfl (fl_bo rfl) rfl ?_
  refine fl_Tq.gfV (k := 5) (v := c0_leakBit_j2_0 f x) rfl (fl_bo rfl) rfl (by simp only [fl_row_self, upd_self]) ?_
  refine fl_Tq.cI (c := (3 : Int32)) rfl (by decide +kernel) (fl_bo rfl) ?_
  have hj37 : fl_Tq (pw_P L xs) 96 36 [some (.inr (.inr (.inl (10, 10)))), some (.inl x)] [.inl (c0_leakBit_j27_0 f x)] (fl_row f 10 (upd (f 10) 5 (c0_leakBit_j2_0 f x)), l) Q → fl_Tq (pw_P L xs) 96 27 [some (.inr (.inr (.inl (10, 10)))), some (.inl x)] [.inl (3 : Int32), .inl (c0_leakBit_j2_0 f x)] (fl_row f 10 (upd (f 10) 5 (c0_leakBit_j2_0 f x)), l) Q := by
    intro hJ
    by_cases h2 : (c0_leakBit_j2_0 f x).toInt = (3 : Int32).toInt
    · refine fl_Tq.jf rfl (fl_bo rfl) (c2_ne_f h2) rfl ?_
      refine fl_Tq.cB (c := (64 : Int32)) rfl (by decide +kernel) (fl_bo rfl) ?_
      refine fl_Tq.stp (pc' := 36) (lv' := [some (.inr (.inr (.inl (10, 10)))), some (.inl x)]) (st' := [.inl (64 : Int32)]) (m' := (fl_row f 10 (upd (f 10) 5 (c0_leakBit_j2_0 f x)), l)) rfl rfl (fl_bo rfl) rfl ?_
      have e0 : (c0_leakBit_j27_0 f x) = (64 : Int32) := by simp only [c0_leakBit_j27_0, if_pos h2]
      rw [e0] at hJ
      exact hJ
    · refine fl_Tq.jt rfl (fl_bo rfl) (c2_ne_t h2) rfl ?_
      refine fl_Tq.cI (c := (0 : Int32)) rfl (by decide +kernel) (fl_bo rfl) ?_
      have e0 : (c0_leakBit_j27_0 f x) = (0 : Int32) := by simp only [c0_leakBit_j27_0, if_neg h2]
      rw [e0] at hJ
      exact hJ
  refine hj37 ?_
  show fl_Tq _ 96 36 [some (.inr (.inr (.inl (10, 10)))), some (.inl x)] [.inl (c0_leakBit_j27_0 f x)] (fl_row f 10 (upd (f 10) 5 (c0_leakBit_j2_0 f x)), l) _
  exact fl_Tq.ret rfl rfl rfl k
noncomputable def c0_weldBit0_v : Int32 := (0 : Int32)
noncomputable def c0_weldBit0_m (f : t2_F) : t2_F := fl_row f 10 (upd (f 10) 6 (0 : Int32))
theorem c0_weldBit0_fr {f : t2_F}  {p : Nat} (e0 : p ≠ 10) : c0_weldBit0_m f p = f p := by
  unfold c0_weldBit0_m
  repeat' split
  all_goals first | rfl | simp only [fl_row_ne e0]
theorem c0_weldBit0_q {L : Nat} {xs : Nat → Int32} {f : t2_F} {l : t2_L} {Q : Option fl_V → fl_M → Prop}   (k : Q (some (.inl (c0_weldBit0_v))) (c0_weldBit0_m f, l)) : fl_Tq (pw_P L xs) 97 0 (fl_args (am_mxl (pw_P L xs) 97) [.inr (.inr (.inl (10, 10))), .inl (0 : Int32)]) [] (f, l) Q := by
  refine fl_Tq.stp (pc' := 1) (lv' := [some (.inr (.inr (.inl (10, 10)))), some (.inl (0 : Int32)), none]) (st' := [.inl (0 : Int32)]) (m' := (f, l)) rfl rfl (fl_bo rfl) rfl ?_
  refine fl_Tq.zt rfl (fl_bo rfl) (c1_eq_t (by decide +kernel)) rfl ?_
  refine fl_Tq.cI (c := (0 : Int32)) rfl (by decide +kernel) (fl_bo rfl) ?_
  refine fl_Tq.stp (pc' := 17) (lv' := [some (.inr (.inr (.inl (10, 10)))), some (.inl (0 : Int32)), some (.inl (0 : Int32))]) (st' := []) (m' := (f, l)) rfl rfl (fl_bo rfl) rfl ?_
  refine fl_Tq.stp (pc' := 18) (lv' := [some (.inr (.inr (.inl (10, 10)))), some (.inl (0 : Int32)), some (.inl (0 : Int32))]) (st' := [.inr (.inr (.inl (10, 10)))]) (m' := (f, l)) rfl rfl (fl_bo rfl) rfl ?_
  refine fl_Tq.stp (pc' := 19) (lv' := [some (.inr (.inr (.inl (10, 10)))), some (.inl (0 : Int32)), some (.inl (0 : Int32))]) (st' := [.inl (0 : Int32), .inr (.inr (.inl (10, 10)))]) (m' := (f, l)) rfl rfl (fl_bo rfl) rfl ?_
  refine fl_Tq.pfV (k := 6) (m' := (fl_row f 10 (upd (f 10) 6 (0 : Int32)), l)) rfl (fl_bo rfl) rfl (t2_upn rfl) ?_
  refine fl_Tq.stp (pc' := 23) (lv' := [some (.inr (.inr (.inl (10, 10)))), some (.inl (0 : Int32)), some (.inl (0 : Int32))]) (st' := [.inl (0 : Int32)]) (m' := (fl_row f 10 (upd (f 10) 6 (0 : Int32)), l)) rfl rfl (fl_bo rfl) rfl ?_
  refine fl_Tq.zt rfl (fl_bo rfl) (c1_eq_t (by decide +kernel)) rfl ?_
  refine fl_Tq.cI (c := (0 : Int32)) rfl (by decide +kernel) (fl_bo rfl) ?_
  exact fl_Tq.ret rfl rfl rfl k
noncomputable def c0_weldBit1_j8_0 (f : t2_F)  : Int32 := if (f 10 6).toInt = 0 then (0 : Int32) else (1 : Int32)
noncomputable def c0_weldBit1_j23_0 (f : t2_F)  : Int32 := if (c0_weldBit1_j8_0 f).toInt = 0 then (0 : Int32) else (256 : Int32)
noncomputable def c0_weldBit1_v (f : t2_F) : Int32 := c0_weldBit1_j23_0 f
noncomputable def c0_weldBit1_m (f : t2_F) : t2_F := fl_row f 10 (upd (f 10) 6 (1 : Int32))
theorem c0_weldBit1_fr {f : t2_F}  {p : Nat} (e0 : p ≠ 10) : c0_weldBit1_m f p = f p := by
  unfold c0_weldBit1_m
  repeat' split
  all_goals first | rfl | simp only [fl_row_ne e0]
theorem c0_weldBit1_q {L : Nat} {xs : Nat → Int32} {f : t2_F} {l : t2_L} {Q : Option fl_V → fl_M → Prop}   (k : Q (some (.inl (c0_weldBit1_v f))) (c0_weldBit1_m f, l)) : fl_Tq (pw_P L xs) 97 0 (fl_args (am_mxl (pw_P L xs) 97) [.inr (.inr (.inl (10, 10))), .inl (1 : Int32)]) [] (f, l) Q := by
  refine fl_Tq.stp (pc' := 1) (lv' := [some (.inr (.inr (.inl (10, 10)))), some (.inl (1 : Int32)), none]) (st' := [.inl (1 : Int32)]) (m' := (f, l)) rfl rfl (fl_bo rfl) rfl ?_
  refine fl_Tq.zf rfl (fl_bo rfl) (c1_eq_f (by decide +kernel)) rfl ?_
  refine fl_Tq.stp (pc' := 5) (lv' := [some (.inr (.inr (.inl (10, 10)))), some (.inl (1 : Int32)), none]) (st' := [.inr (.inr (.inl (10, 10)))]) (m' := (f, l)) rfl rfl (fl_bo rfl) rfl ?_
  refine fl_Tq.gfV (k := 6) (v := f 10 6) rfl (fl_bo rfl) rfl rfl ?_
  have hj38 : fl_Tq (pw_P L xs) 97 16 [some (.inr (.inr (.inl (10, 10)))), some (.inl (1 : Int32)), none] [.inl (c0_weldBit1_j8_0 f)] (f, l) Q → fl_Tq (pw_P L xs) 97 8 [some (.inr (.inr (.inl (10, 10)))), some (.inl (1 : Int32)), none] [.inl (f 10 6)] (f, l) Q := by
    intro hJ
    by_cases h1 : (f 10 6).toInt = 0
    · refine fl_Tq.zt rfl (fl_bo rfl) (c1_eq_t h1) rfl ?_
      refine fl_Tq.cI (c := (0 : Int32)) rfl (by decide +kernel) (fl_bo rfl) ?_
      have e0 : (c0_weldBit1_j8_0 f) = (0 : Int32) := by simp only [c0_weldBit1_j8_0, if_pos h1]
      rw [e0] at hJ
      exact hJ
    · refine fl_Tq.zf rfl (fl_bo rfl) (c1_eq_f h1) rfl ?_
      refine fl_Tq.cI (c := (1 : Int32)) rfl (by decide +kernel) (fl_bo rfl) ?_
      refine fl_Tq.stp (pc' := 16) (lv' := [some (.inr (.inr (.inl (10, 10)))), some (.inl (1 : Int32)), none]) (st' := [.inl (1 : Int32)]) (m' := (f, l)) rfl rfl (fl_bo rfl) rfl ?_
      have e0 : (c0_weldBit1_j8_0 f) = (1 : Int32) := by simp only [c0_weldBit1_j8_0, if_neg h1]
      rw [e0] at hJ
      exact hJ
  refine hj38 ?_
  show fl_Tq _ 97 16 [some (.inr (.inr (.inl (10, 10)))), some (.inl (1 : Int32)), none] [.inl (c0_weldBit1_j8_0 f)] (f, l) _
  refine fl_Tq.stp (pc' := 17) (lv' := [some (.inr (.inr (.inl (10, 10)))), some (.inl (1 : Int32)), some (.inl (c0_weldBit1_j8_0 f))]) (st' := []) (m' := (f, l)) rfl rfl (fl_bo rfl) rfl ?_
  refine fl_Tq.stp (pc' := 18) (lv' := [some (.inr (.inr (.inl (10, 10)))), some (.inl (1 : Int32)), some (.inl (c0_weldBit1_j8_0 f))]) (st' := [.inr (.inr (.inl (10, 10)))]) (m' := (f, l)) rfl rfl (fl_bo rfl) rfl ?_
  refine fl_Tq.stp (pc' := 19) (lv' := [some (.inr (.inr (.inl (10, 10)))), some (.inl (1 : Int32)), some (.inl (c0_weldBit1_j8_0 f))]) (st' := [.inl (1 : Int32), .inr (.inr (.inl (10, 10)))]) (m' := (f, l)) rfl rfl (fl_bo rfl) rfl ?_
  refine fl_Tq.pfV (k := 6) (m' := (fl_row f 10 (upd (f 10) 6 (1 : Int32)), l)) rfl (fl_bo rfl) rfl (t2_upn rfl) ?_
  refine fl_Tq.stp (pc' := 23) (lv' := [some (.inr (.inr (.inl (10, 10)))), some (.inl (1 : Int32)), some (.inl (c0_weldBit1_j8_0 f))]) (st' := [.inl (c0_weldBit1_j8_0 f)]) (m' := (fl_row f 10 (upd (f 10) 6 (1 : Int32)), l)) rfl rfl (fl_bo rfl) rfl ?_
  have hj39 : fl_Tq (pw_P L xs) 97 33 [some (.inr (.inr (.inl (10, 10)))), some (.inl (1 : Int32)), some (.inl (c0_weldBit1_j8_0 f))] [.inl (c0_weldBit1_j23_0 f)] (fl_row f 10 (upd (f 10) 6 (1 : Int32)), l) Q → fl_Tq (pw_P L xs) 97 23 [some (.inr (.inr (.inl (10, 10)))), some (.inl (1 : Int32)), some (.inl (c0_weldBit1_j8_0 f))] [.inl (c0_weldBit1_j8_0 f)] (fl_row f 10 (upd (f 10) 6 (1 : Int32)), l) Q := by
    intro hJ
    by_cases h2 : (c0_weldBit1_j8_0 f).toInt = 0
    · refine fl_Tq.zt rfl (fl_bo rfl) (c1_eq_t h2) rfl ?_
      refine fl_Tq.cI (c := (0 : Int32)) rfl (by decide +kernel) (fl_bo rfl) ?_
      have e0 : (c0_weldBit1_j23_0 f) = (0 : Int32) := by simp only [c0_weldBit1_j23_0, if_pos h2]
      rw [e0] at hJ
      exact hJ
    · refine fl_Tq.zf rfl (fl_bo rfl) (c1_eq_f h2) rfl ?_
      refine fl_Tq.cS (c := (256 : Int32)) rfl (by decide +kernel) (fl_bo rfl) ?_
      refine fl_Tq.stp (pc' := 33) (lv' := [some (.inr (.inr (.inl (10, 10)))), some (.inl (1 : Int32)), some (.inl (c0_weldBit1_j8_0 f))]) (st' := [.inl (256 : Int32)]) (m' := (fl_row f 10 (upd (f 10) 6 (1 : Int32)), l)) rfl rfl (fl_bo rfl) rfl ?_
      have e0 : (c0_weldBit1_j23_0 f) = (256 : Int32) := by simp only [c0_weldBit1_j23_0, if_neg h2]
      rw [e0] at hJ
      exact hJ
  refine hj39 ?_
  show fl_Tq _ 97 33 [some (.inr (.inr (.inl (10, 10)))), some (.inl (1 : Int32)), some (.inl (c0_weldBit1_j8_0 f))] [.inl (c0_weldBit1_j23_0 f)] (fl_row f 10 (upd (f 10) 6 (1 : Int32)), l) _
  exact fl_Tq.ret rfl rfl rfl k
noncomputable def c0_silentBit_j11_0 (f : t2_F) (x : Int32) : Int32 := if x.toInt = 0 then (0 : Int32) else (if x.toInt < ((f 10 4) + (1 : Int32)).toInt then (512 : Int32) else (0 : Int32))
noncomputable def c0_silentBit_v (f : t2_F) (x : Int32) : Int32 := c0_silentBit_j11_0 f x
noncomputable def c0_silentBit_m (f : t2_F) (x : Int32) : t2_F := fl_row f 10 (upd (f 10) 4 ((f 10 4) + (1 : Int32)))
theorem c0_silentBit_fr {f : t2_F} {x : Int32} {p : Nat} (e0 : p ≠ 10) : c0_silentBit_m f x p = f p := by
  unfold c0_silentBit_m
  repeat' split
  all_goals first | rfl | simp only [fl_row_ne e0]
theorem c0_silentBit_q {L : Nat} {xs : Nat → Int32} {f : t2_F} {l : t2_L} {Q : Option fl_V → fl_M → Prop} {x : Int32}  (k : Q (some (.inl (c0_silentBit_v f x))) (c0_silentBit_m f x, l)) : fl_Tq (pw_P L xs) 98 0 (fl_args (am_mxl (pw_P L xs) 98) [.inr (.inr (.inl (10, 10))), .inl x]) [] (f, l) Q := by
  refine fl_Tq.stp (pc' := 1) (lv' := [some (.inr (.inr (.inl (10, 10)))), some (.inl x)]) (st' := [.inr (.inr (.inl (10, 10)))]) (m' := (f, l)) rfl rfl (fl_bo rfl) rfl ?_
  refine fl_Tq.stp (pc' := 2) (lv' := [some (.inr (.inr (.inl (10, 10)))), some (.inl x)]) (st' := [.inr (.inr (.inl (10, 10))), .inr (.inr (.inl (10, 10)))]) (m' := (f, l)) rfl rfl (fl_bo rfl) rfl ?_
  refine fl_Tq.gfV (k := 4) (v := f 10 4) rfl (fl_bo rfl) rfl rfl ?_
  refine fl_Tq.cI (c := (1 : Int32)) rfl (by decide +kernel) (fl_bo rfl) ?_
  refine fl_Tq.stp (pc' := 7) (lv' := [some (.inr (.inr (.inl (10, 10)))), some (.inl x)]) (st' := [.inl ((f 10 4) + (1 : Int32)), .inr (.inr (.inl (10, 10)))]) (m' := (f, l)) rfl rfl (fl_bo rfl) rfl ?_
  refine fl_Tq.pfV (k := 4) (m' := (fl_row f 10 (upd (f 10) 4 ((f 10 4) + (1 : Int32))), l)) rfl (fl_bo rfl) rfl (t2_upn rfl) ?_
  refine fl_Tq.stp (pc' := 11) (lv' := [some (.inr (.inr (.inl (10, 10)))), some (.inl x)]) (st' := [.inl x]) (m' := (fl_row f 10 (upd (f 10) 4 ((f 10 4) + (1 : Int32))), l)) rfl rfl (fl_bo rfl) rfl ?_
  have hj40 : fl_Tq (pw_P L xs) 98 29 [some (.inr (.inr (.inl (10, 10)))), some (.inl x)] [.inl (c0_silentBit_j11_0 f x)] (fl_row f 10 (upd (f 10) 4 ((f 10 4) + (1 : Int32))), l) Q → fl_Tq (pw_P L xs) 98 11 [some (.inr (.inr (.inl (10, 10)))), some (.inl x)] [.inl x] (fl_row f 10 (upd (f 10) 4 ((f 10 4) + (1 : Int32))), l) Q := by
    intro hJ
    by_cases h1 : x.toInt = 0
    · refine fl_Tq.zt rfl (fl_bo rfl) (c1_eq_t h1) rfl ?_
      refine fl_Tq.cI (c := (0 : Int32)) rfl (by decide +kernel) (fl_bo rfl) ?_
      have e0 : (c0_silentBit_j11_0 f x) = (0 : Int32) := by simp only [c0_silentBit_j11_0, if_pos h1]
      rw [e0] at hJ
      exact hJ
    · refine fl_Tq.zf rfl (fl_bo rfl) (c1_eq_f h1) rfl ?_
      refine fl_Tq.stp (pc' := 15) (lv' := [some (.inr (.inr (.inl (10, 10)))), some (.inl x)]) (st' := [.inr (.inr (.inl (10, 10)))]) (m' := (fl_row f 10 (upd (f 10) 4 ((f 10 4) + (1 : Int32))), l)) rfl rfl (fl_bo rfl) rfl ?_
      refine fl_Tq.gfV (k := 4) (v := (f 10 4) + (1 : Int32)) rfl (fl_bo rfl) rfl (by simp only [fl_row_self, upd_self]) ?_
      refine fl_Tq.stp (pc' := 19) (lv' := [some (.inr (.inr (.inl (10, 10)))), some (.inl x)]) (st' := [.inl x, .inl ((f 10 4) + (1 : Int32))]) (m' := (fl_row f 10 (upd (f 10) 4 ((f 10 4) + (1 : Int32))), l)) rfl rfl (fl_bo rfl) rfl ?_
      by_cases h2 : x.toInt < ((f 10 4) + (1 : Int32)).toInt
      · refine fl_Tq.jf rfl (fl_bo rfl) (c2_le_f h2) rfl ?_
        refine fl_Tq.cS (c := (512 : Int32)) rfl (by decide +kernel) (fl_bo rfl) ?_
        refine fl_Tq.stp (pc' := 29) (lv' := [some (.inr (.inr (.inl (10, 10)))), some (.inl x)]) (st' := [.inl (512 : Int32)]) (m' := (fl_row f 10 (upd (f 10) 4 ((f 10 4) + (1 : Int32))), l)) rfl rfl (fl_bo rfl) rfl ?_
        have e0 : (c0_silentBit_j11_0 f x) = (512 : Int32) := by simp only [c0_silentBit_j11_0, if_neg h1, if_pos h2]
        rw [e0] at hJ
        exact hJ
      · refine fl_Tq.jt rfl (fl_bo rfl) (c2_le_t h2) rfl ?_
        refine fl_Tq.cI (c := (0 : Int32)) rfl (by decide +kernel) (fl_bo rfl) ?_
        have e0 : (c0_silentBit_j11_0 f x) = (0 : Int32) := by simp only [c0_silentBit_j11_0, if_neg h1, if_neg h2]
        rw [e0] at hJ
        exact hJ
  refine hj40 ?_
  show fl_Tq _ 98 29 [some (.inr (.inr (.inl (10, 10)))), some (.inl x)] [.inl (c0_silentBit_j11_0 f x)] (fl_row f 10 (upd (f 10) 4 ((f 10 4) + (1 : Int32))), l) _
  exact fl_Tq.ret rfl rfl rfl k
noncomputable def c0_bearsZone_v (f : t2_F) (x : Int32) : Int32 := if (f 3 6).toInt < (6 : Int32).toInt then (if (f 3 6).toInt = 0 then (1 : Int32) else (if (f 7 (2 * (f 3 6).toInt.toNat - 2)).toInt < x.toInt then (1 : Int32) else (0 : Int32))) else (0 : Int32)
theorem c0_bearsZone_q {L : Nat} {xs : Nat → Int32} {f : t2_F} {l : t2_L} {Q : Option fl_V → fl_M → Prop} {x : Int32} (hz : 0 ≤ (f 3 6).toInt ∧ (f 3 6).toInt ≤ 6) (k : Q (some (.inl (c0_bearsZone_v f x))) (f, l)) : fl_Tq (pw_P L xs) 77 0 (fl_args (am_mxl (pw_P L xs) 77) [.inr (.inr (.inl (3, 3))), .inl x]) [] (f, l) Q := by
  refine fl_Tq.stp (pc' := 1) (lv' := [some (.inr (.inr (.inl (3, 3)))), some (.inl x)]) (st' := [.inr (.inr (.inl (3, 3)))]) (m' := (f, l)) rfl rfl (fl_bo rfl) rfl ?_
  refine fl_Tq.gfV (k := 6) (v := f 3 6) rfl (fl_bo rfl) rfl rfl ?_
  refine fl_Tq.cB (c := (6 : Int32)) rfl (by decide +kernel) (fl_bo rfl) ?_
  by_cases h1 : (f 3 6).toInt < (6 : Int32).toInt
  · refine fl_Tq.jt rfl (fl_bo rfl) (c2_lt_t h1) rfl ?_
    refine fl_Tq.stp (pc' := 12) (lv' := [some (.inr (.inr (.inl (3, 3)))), some (.inl x)]) (st' := [.inr (.inr (.inl (3, 3)))]) (m' := (f, l)) rfl rfl (fl_bo rfl) rfl ?_
    refine fl_Tq.gfV (k := 6) (v := f 3 6) rfl (fl_bo rfl) rfl rfl ?_
    by_cases h2 : (f 3 6).toInt = 0
    · refine fl_Tq.zt rfl (fl_bo rfl) (c1_eq_t h2) rfl ?_
      refine fl_Tq.cI (c := (1 : Int32)) rfl (by decide +kernel) (fl_bo rfl) ?_
      refine fl_Tq.stp (pc' := 40) (lv' := [some (.inr (.inr (.inl (3, 3)))), some (.inl x)]) (st' := [.inl (1 : Int32)]) (m' := (f, l)) rfl rfl (fl_bo rfl) rfl ?_
      refine fl_Tq.ret rfl rfl rfl ?_
      unfold c0_bearsZone_v at k
      simp only [if_pos h1, if_pos h2] at k
      exact k
    · refine fl_Tq.zf rfl (fl_bo rfl) (c1_eq_f h2) rfl ?_
      refine fl_Tq.stp (pc' := 19) (lv' := [some (.inr (.inr (.inl (3, 3)))), some (.inl x)]) (st' := [.inl x]) (m' := (f, l)) rfl rfl (fl_bo rfl) rfl ?_
      refine fl_Tq.stp (pc' := 20) (lv' := [some (.inr (.inr (.inl (3, 3)))), some (.inl x)]) (st' := [.inr (.inr (.inl (3, 3))), .inl x]) (m' := (f, l)) rfl rfl (fl_bo rfl) rfl ?_
      refine fl_Tq.stp (pc' := 23) (lv' := [some (.inr (.inr (.inl (3, 3)))), some (.inl x)]) (st' := [.inr (.inr (.inl (7, 7))), .inl x]) (m' := (f, l)) rfl rfl (fl_bo rfl) rfl ?_
      refine fl_Tq.stp (pc' := 24) (lv' := [some (.inr (.inr (.inl (3, 3)))), some (.inl x)]) (st' := [.inr (.inr (.inl (3, 3))), .inr (.inr (.inl (7, 7))), .inl x]) (m' := (f, l)) rfl rfl (fl_bo rfl) rfl ?_
      refine fl_Tq.gfV (k := 6) (v := f 3 6) rfl (fl_bo rfl) rfl rfl ?_
      refine fl_Tq.cI (c := (2 : Int32)) rfl (by decide +kernel) (fl_bo rfl) ?_
      refine fl_Tq.stp (pc' := 29) (lv' := [some (.inr (.inr (.inl (3, 3)))), some (.inl x)]) (st' := [.inl ((f 3 6) * (2 : Int32)), .inr (.inr (.inl (7, 7))), .inl x]) (m' := (f, l)) rfl rfl (fl_bo rfl) rfl ?_
      refine fl_Tq.cI (c := (2 : Int32)) rfl (by decide +kernel) (fl_bo rfl) ?_
      refine fl_Tq.stp (pc' := 31) (lv' := [some (.inr (.inr (.inl (3, 3)))), some (.inl x)]) (st' := [.inl (((f 3 6) * (2 : Int32)) - (2 : Int32)), .inr (.inr (.inl (7, 7))), .inl x]) (m' := (f, l)) rfl rfl (fl_bo rfl) rfl ?_
      refine fl_Tq.ldV (p := 7) (τ := 7) (n := 12) (z := (0, 0, 0)) (k := 2 * (f 3 6).toInt.toNat - 2) (v := f 7 (2 * (f 3 6).toInt.toNat - 2)) rfl (fl_bo rfl) rfl (t2_zl hz h2) (by omega) rfl ?_
      by_cases h3 : (f 7 (2 * (f 3 6).toInt.toNat - 2)).toInt < x.toInt
      · refine fl_Tq.jf rfl (fl_bo rfl) (c2_le_f h3) rfl ?_
        refine fl_Tq.cI (c := (1 : Int32)) rfl (by decide +kernel) (fl_bo rfl) ?_
        refine fl_Tq.stp (pc' := 40) (lv' := [some (.inr (.inr (.inl (3, 3)))), some (.inl x)]) (st' := [.inl (1 : Int32)]) (m' := (f, l)) rfl rfl (fl_bo rfl) rfl ?_
        refine fl_Tq.ret rfl rfl rfl ?_
        unfold c0_bearsZone_v at k
        simp only [if_pos h1, if_neg h2, if_pos h3] at k
        exact k
      · refine fl_Tq.jt rfl (fl_bo rfl) (c2_le_t h3) rfl ?_
        refine fl_Tq.cI (c := (0 : Int32)) rfl (by decide +kernel) (fl_bo rfl) ?_
        refine fl_Tq.ret rfl rfl rfl ?_
        unfold c0_bearsZone_v at k
        simp only [if_pos h1, if_neg h2, if_neg h3] at k
        exact k
  · refine fl_Tq.jf rfl (fl_bo rfl) (c2_lt_f h1) rfl ?_
    refine fl_Tq.cI (c := (0 : Int32)) rfl (by decide +kernel) (fl_bo rfl) ?_
    refine fl_Tq.ret rfl rfl rfl ?_
    unfold c0_bearsZone_v at k
    simp only [if_neg h1] at k
    exact k
noncomputable def c0_bearsPiece_v (f : t2_F) : Int32 := if (f 3 7).toInt < (24 : Int32).toInt then (1 : Int32) else (0 : Int32)
theorem c0_bearsPiece_q {L : Nat} {xs : Nat → Int32} {f : t2_F} {l : t2_L} {Q : Option fl_V → fl_M → Prop}   (k : Q (some (.inl (c0_bearsPiece_v f))) (f, l)) : fl_Tq (pw_P L xs) 80 0 (fl_args (am_mxl (pw_P L xs) 80) [.inr (.inr (.inl (3, 3)))]) [] (f, l) Q := by
  refine fl_Tq.stp (pc' := 1) (lv' := [some (.inr (.inr (.inl (3, 3))))]) (st' := [.inr (.inr (.inl (3, 3)))]) (m' := (f, l)) rfl rfl (fl_bo rfl) rfl ?_
  refine fl_Tq.gfV (k := 7) (v := f 3 7) rfl (fl_bo rfl) rfl rfl ?_
  refine fl_Tq.cB (c := (24 : Int32)) rfl (by decide +kernel) (fl_bo rfl) ?_
  by_cases h1 : (f 3 7).toInt < (24 : Int32).toInt
  · refine fl_Tq.jf rfl (fl_bo rfl) (c2_ge_f h1) rfl ?_
    refine fl_Tq.cI (c := (1 : Int32)) rfl (by decide +kernel) (fl_bo rfl) ?_
    refine fl_Tq.stp (pc' := 14) (lv' := [some (.inr (.inr (.inl (3, 3))))]) (st' := [.inl (1 : Int32)]) (m' := (f, l)) rfl rfl (fl_bo rfl) rfl ?_
    refine fl_Tq.ret rfl rfl rfl ?_
    unfold c0_bearsPiece_v at k
    simp only [if_pos h1] at k
    exact k
  · refine fl_Tq.jt rfl (fl_bo rfl) (c2_ge_t h1) rfl ?_
    refine fl_Tq.cI (c := (0 : Int32)) rfl (by decide +kernel) (fl_bo rfl) ?_
    refine fl_Tq.ret rfl rfl rfl ?_
    unfold c0_bearsPiece_v at k
    simp only [if_neg h1] at k
    exact k
noncomputable def c0_bearsRule_v (f : t2_F) : Int32 := if (f 3 8).toInt < (8 : Int32).toInt then (1 : Int32) else (0 : Int32)
theorem c0_bearsRule_q {L : Nat} {xs : Nat → Int32} {f : t2_F} {l : t2_L} {Q : Option fl_V → fl_M → Prop}   (k : Q (some (.inl (c0_bearsRule_v f))) (f, l)) : fl_Tq (pw_P L xs) 83 0 (fl_args (am_mxl (pw_P L xs) 83) [.inr (.inr (.inl (3, 3)))]) [] (f, l) Q := by
  refine fl_Tq.stp (pc' := 1) (lv' := [some (.inr (.inr (.inl (3, 3))))]) (st' := [.inr (.inr (.inl (3, 3)))]) (m' := (f, l)) rfl rfl (fl_bo rfl) rfl ?_
  refine fl_Tq.gfV (k := 8) (v := f 3 8) rfl (fl_bo rfl) rfl rfl ?_
  refine fl_Tq.cB (c := (8 : Int32)) rfl (by decide +kernel) (fl_bo rfl) ?_
  by_cases h1 : (f 3 8).toInt < (8 : Int32).toInt
  · refine fl_Tq.jf rfl (fl_bo rfl) (c2_ge_f h1) rfl ?_
    refine fl_Tq.cI (c := (1 : Int32)) rfl (by decide +kernel) (fl_bo rfl) ?_
    refine fl_Tq.stp (pc' := 14) (lv' := [some (.inr (.inr (.inl (3, 3))))]) (st' := [.inl (1 : Int32)]) (m' := (f, l)) rfl rfl (fl_bo rfl) rfl ?_
    refine fl_Tq.ret rfl rfl rfl ?_
    unfold c0_bearsRule_v at k
    simp only [if_pos h1] at k
    exact k
  · refine fl_Tq.jt rfl (fl_bo rfl) (c2_ge_t h1) rfl ?_
    refine fl_Tq.cI (c := (0 : Int32)) rfl (by decide +kernel) (fl_bo rfl) ?_
    refine fl_Tq.ret rfl rfl rfl ?_
    unfold c0_bearsRule_v at k
    simp only [if_neg h1] at k
    exact k
noncomputable def c0_addZone_v (f : t2_F) (x y : Int32) : Int32 := (f 3 6) + (1 : Int32)
noncomputable def c0_addZone_m (f : t2_F) (x y : Int32) : t2_F := fl_row (fl_row f 7 (upd (upd (f 7) (((f 3 6).toInt.toNat) * 2) x) ((((f 3 6).toInt.toNat) * 2) + 1) y)) 3 (upd (f 3) 6 ((f 3 6) + (1 : Int32)))
theorem c0_addZone_fr {f : t2_F} {x y : Int32} {p : Nat} (e0 : p ≠ 7) (e1 : p ≠ 3) : c0_addZone_m f x y p = f p := by
  unfold c0_addZone_m
  repeat' split
  all_goals first | rfl | simp only [fl_row_ne e0, fl_row_ne e1]
theorem c0_addZone_q {L : Nat} {xs : Nat → Int32} {f : t2_F} {l : t2_L} {Q : Option fl_V → fl_M → Prop} {x y : Int32} (hz : 0 ≤ (f 3 6).toInt ∧ (f 3 6).toInt ≤ 5) (k : Q (some (.inl (c0_addZone_v f x y))) (c0_addZone_m f x y, l)) : fl_Tq (pw_P L xs) 78 0 (fl_args (am_mxl (pw_P L xs) 78) [.inr (.inr (.inl (3, 3))), .inl x, .inl y]) [] (f, l) Q := by
  refine fl_Tq.stp (pc' := 1) (lv' := [some (.inr (.inr (.inl (3, 3)))), some (.inl x), some (.inl y)]) (st' := [.inr (.inr (.inl (3, 3)))]) (m' := (f, l)) rfl rfl (fl_bo rfl) rfl ?_
  refine fl_Tq.stp (pc' := 4) (lv' := [some (.inr (.inr (.inl (3, 3)))), some (.inl x), some (.inl y)]) (st' := [.inr (.inr (.inl (7, 7)))]) (m' := (f, l)) rfl rfl (fl_bo rfl) rfl ?_
  refine fl_Tq.stp (pc' := 5) (lv' := [some (.inr (.inr (.inl (3, 3)))), some (.inl x), some (.inl y)]) (st' := [.inr (.inr (.inl (3, 3))), .inr (.inr (.inl (7, 7)))]) (m' := (f, l)) rfl rfl (fl_bo rfl) rfl ?_
  refine fl_Tq.gfV (k := 6) (v := f 3 6) rfl (fl_bo rfl) rfl rfl ?_
  refine fl_Tq.cI (c := (2 : Int32)) rfl (by decide +kernel) (fl_bo rfl) ?_
  refine fl_Tq.stp (pc' := 10) (lv' := [some (.inr (.inr (.inl (3, 3)))), some (.inl x), some (.inl y)]) (st' := [.inl ((f 3 6) * (2 : Int32)), .inr (.inr (.inl (7, 7)))]) (m' := (f, l)) rfl rfl (fl_bo rfl) rfl ?_
  refine fl_Tq.stp (pc' := 11) (lv' := [some (.inr (.inr (.inl (3, 3)))), some (.inl x), some (.inl y)]) (st' := [.inl x, .inl ((f 3 6) * (2 : Int32)), .inr (.inr (.inl (7, 7)))]) (m' := (f, l)) rfl rfl (fl_bo rfl) rfl ?_
  refine fl_Tq.svV (p := 7) (τ := 7) (n := 12) (z := (0, 0, 0)) (k := ((f 3 6).toInt.toNat) * 2) (m' := (fl_row f 7 (upd (f 7) (((f 3 6).toInt.toNat) * 2) x), l)) rfl (fl_bo rfl) rfl (t2_im (t2_nn hz.1) (by decide +kernel) (by omega)) (by omega) (t2_upn rfl) ?_
  refine fl_Tq.stp (pc' := 13) (lv' := [some (.inr (.inr (.inl (3, 3)))), some (.inl x), some (.inl y)]) (st' := [.inr (.inr (.inl (3, 3)))]) (m' := (fl_row f 7 (upd (f 7) (((f 3 6).toInt.toNat) * 2) x), l)) rfl rfl (fl_bo rfl) rfl ?_
  refine fl_Tq.stp (pc' := 16) (lv' := [some (.inr (.inr (.inl (3, 3)))), some (.inl x), some (.inl y)]) (st' := [.inr (.inr (.inl (7, 7)))]) (m' := (fl_row f 7 (upd (f 7) (((f 3 6).toInt.toNat) * 2) x), l)) rfl rfl (fl_bo rfl) rfl ?_
  refine fl_Tq.stp (pc' := 17) (lv' := [some (.inr (.inr (.inl (3, 3)))), some (.inl x), some (.inl y)]) (st' := [.inr (.inr (.inl (3, 3))), .inr (.inr (.inl (7, 7)))]) (m' := (fl_row f 7 (upd (f 7) (((f 3 6).toInt.toNat) * 2) x), l)) rfl rfl (fl_bo rfl) rfl ?_
  refine fl_Tq.gfV (k := 6) (v := f 3 6) rfl (fl_bo rfl) rfl (by simp only [fl_row_ne (by decide : 3 ≠ 7)]) ?_
  refine fl_Tq.cI (c := (2 : Int32)) rfl (by decide +kernel) (fl_bo rfl) ?_
  refine fl_Tq.stp (pc' := 22) (lv' := [some (.inr (.inr (.inl (3, 3)))), some (.inl x), some (.inl y)]) (st' := [.inl ((f 3 6) * (2 : Int32)), .inr (.inr (.inl (7, 7)))]) (m' := (fl_row f 7 (upd (f 7) (((f 3 6).toInt.toNat) * 2) x), l)) rfl rfl (fl_bo rfl) rfl ?_
  refine fl_Tq.cI (c := (1 : Int32)) rfl (by decide +kernel) (fl_bo rfl) ?_
  refine fl_Tq.stp (pc' := 24) (lv' := [some (.inr (.inr (.inl (3, 3)))), some (.inl x), some (.inl y)]) (st' := [.inl (((f 3 6) * (2 : Int32)) + (1 : Int32)), .inr (.inr (.inl (7, 7)))]) (m' := (fl_row f 7 (upd (f 7) (((f 3 6).toInt.toNat) * 2) x), l)) rfl rfl (fl_bo rfl) rfl ?_
  refine fl_Tq.stp (pc' := 25) (lv' := [some (.inr (.inr (.inl (3, 3)))), some (.inl x), some (.inl y)]) (st' := [.inl y, .inl (((f 3 6) * (2 : Int32)) + (1 : Int32)), .inr (.inr (.inl (7, 7)))]) (m' := (fl_row f 7 (upd (f 7) (((f 3 6).toInt.toNat) * 2) x), l)) rfl rfl (fl_bo rfl) rfl ?_
  refine fl_Tq.svV (p := 7) (τ := 7) (n := 12) (z := (0, 0, 0)) (k := (((f 3 6).toInt.toNat) * 2) + 1) (m' := (fl_row f 7 (upd (upd (f 7) (((f 3 6).toInt.toNat) * 2) x) ((((f 3 6).toInt.toNat) * 2) + 1) y), l)) rfl (fl_bo rfl) rfl (t2_ia (t2_im (t2_nn hz.1) (by decide +kernel) (by omega)) (by decide +kernel) (by omega)) (by omega) (t2_upr) ?_
  refine fl_Tq.stp (pc' := 27) (lv' := [some (.inr (.inr (.inl (3, 3)))), some (.inl x), some (.inl y)]) (st' := [.inr (.inr (.inl (3, 3)))]) (m' := (fl_row f 7 (upd (upd (f 7) (((f 3 6).toInt.toNat) * 2) x) ((((f 3 6).toInt.toNat) * 2) + 1) y), l)) rfl rfl (fl_bo rfl) rfl ?_
  refine fl_Tq.stp (pc' := 28) (lv' := [some (.inr (.inr (.inl (3, 3)))), some (.inl x), some (.inl y)]) (st' := [.inr (.inr (.inl (3, 3))), .inr (.inr (.inl (3, 3)))]) (m' := (fl_row f 7 (upd (upd (f 7) (((f 3 6).toInt.toNat) * 2) x) ((((f 3 6).toInt.toNat) * 2) + 1) y), l)) rfl rfl (fl_bo rfl) rfl ?_
  refine fl_Tq.gfV (k := 6) (v := f 3 6) rfl (fl_bo rfl) rfl (by simp only [fl_row_ne (by decide : 3 ≠ 7)]) ?_
  refine fl_Tq.cI (c := (1 : Int32)) rfl (by decide +kernel) (fl_bo rfl) ?_
  refine fl_Tq.stp (pc' := 33) (lv' := [some (.inr (.inr (.inl (3, 3)))), some (.inl x), some (.inl y)]) (st' := [.inl ((f 3 6) + (1 : Int32)), .inr (.inr (.inl (3, 3)))]) (m' := (fl_row f 7 (upd (upd (f 7) (((f 3 6).toInt.toNat) * 2) x) ((((f 3 6).toInt.toNat) * 2) + 1) y), l)) rfl rfl (fl_bo rfl) rfl ?_
  refine fl_Tq.pfV (k := 6) (m' := (fl_row (fl_row f 7 (upd (upd (f 7) (((f 3 6).toInt.toNat) * 2) x) ((((f 3 6).toInt.toNat) * 2) + 1) y)) 3 (upd (f 3) 6 ((f 3 6) + (1 : Int32))), l)) rfl (fl_bo rfl) rfl (t2_upn (by rw [fl_row_ne (by decide : 3 ≠ 7)])) ?_
  refine fl_Tq.stp (pc' := 37) (lv' := [some (.inr (.inr (.inl (3, 3)))), some (.inl x), some (.inl y)]) (st' := [.inr (.inr (.inl (3, 3)))]) (m' := (fl_row (fl_row f 7 (upd (upd (f 7) (((f 3 6).toInt.toNat) * 2) x) ((((f 3 6).toInt.toNat) * 2) + 1) y)) 3 (upd (f 3) 6 ((f 3 6) + (1 : Int32))), l)) rfl rfl (fl_bo rfl) rfl ?_
  refine fl_Tq.gfV (k := 6) (v := (f 3 6) + (1 : Int32)) rfl (fl_bo rfl) rfl (by simp only [fl_row_self, upd_self]) ?_
  exact fl_Tq.ret rfl rfl rfl k
noncomputable def c0_addPiece_v (f : t2_F) (x y : Int32) : Int32 := (f 3 7) + (1 : Int32)
noncomputable def c0_addPiece_m (f : t2_F) (x y : Int32) : t2_F := fl_row (fl_row f 8 (upd (upd (f 8) (((f 3 7).toInt.toNat) * 2) x) ((((f 3 7).toInt.toNat) * 2) + 1) y)) 3 (upd (f 3) 7 ((f 3 7) + (1 : Int32)))
theorem c0_addPiece_fr {f : t2_F} {x y : Int32} {p : Nat} (e0 : p ≠ 8) (e1 : p ≠ 3) : c0_addPiece_m f x y p = f p := by
  unfold c0_addPiece_m
  repeat' split
  all_goals first | rfl | simp only [fl_row_ne e0, fl_row_ne e1]
theorem c0_addPiece_q {L : Nat} {xs : Nat → Int32} {f : t2_F} {l : t2_L} {Q : Option fl_V → fl_M → Prop} {x y : Int32} (hz : 0 ≤ (f 3 7).toInt ∧ (f 3 7).toInt ≤ 23) (k : Q (some (.inl (c0_addPiece_v f x y))) (c0_addPiece_m f x y, l)) : fl_Tq (pw_P L xs) 81 0 (fl_args (am_mxl (pw_P L xs) 81) [.inr (.inr (.inl (3, 3))), .inl x, .inl y]) [] (f, l) Q := by
  refine fl_Tq.stp (pc' := 1) (lv' := [some (.inr (.inr (.inl (3, 3)))), some (.inl x), some (.inl y)]) (st' := [.inr (.inr (.inl (3, 3)))]) (m' := (f, l)) rfl rfl (fl_bo rfl) rfl ?_
  refine fl_Tq.stp (pc' := 4) (lv' := [some (.inr (.inr (.inl (3, 3)))), some (.inl x), some (.inl y)]) (st' := [.inr (.inr (.inl (8, 8)))]) (m' := (f, l)) rfl rfl (fl_bo rfl) rfl ?_
  refine fl_Tq.stp (pc' := 5) (lv' := [some (.inr (.inr (.inl (3, 3)))), some (.inl x), some (.inl y)]) (st' := [.inr (.inr (.inl (3, 3))), .inr (.inr (.inl (8, 8)))]) (m' := (f, l)) rfl rfl (fl_bo rfl) rfl ?_
  refine fl_Tq.gfV (k := 7) (v := f 3 7) rfl (fl_bo rfl) rfl rfl ?_
  refine fl_Tq.cI (c := (2 : Int32)) rfl (by decide +kernel) (fl_bo rfl) ?_
  refine fl_Tq.stp (pc' := 10) (lv' := [some (.inr (.inr (.inl (3, 3)))), some (.inl x), some (.inl y)]) (st' := [.inl ((f 3 7) * (2 : Int32)), .inr (.inr (.inl (8, 8)))]) (m' := (f, l)) rfl rfl (fl_bo rfl) rfl ?_
  refine fl_Tq.stp (pc' := 11) (lv' := [some (.inr (.inr (.inl (3, 3)))), some (.inl x), some (.inl y)]) (st' := [.inl x, .inl ((f 3 7) * (2 : Int32)), .inr (.inr (.inl (8, 8)))]) (m' := (f, l)) rfl rfl (fl_bo rfl) rfl ?_
  refine fl_Tq.svV (p := 8) (τ := 8) (n := 48) (z := (0, 0, 0)) (k := ((f 3 7).toInt.toNat) * 2) (m' := (fl_row f 8 (upd (f 8) (((f 3 7).toInt.toNat) * 2) x), l)) rfl (fl_bo rfl) rfl (t2_im (t2_nn hz.1) (by decide +kernel) (by omega)) (by omega) (t2_upn rfl) ?_
  refine fl_Tq.stp (pc' := 13) (lv' := [some (.inr (.inr (.inl (3, 3)))), some (.inl x), some (.inl y)]) (st' := [.inr (.inr (.inl (3, 3)))]) (m' := (fl_row f 8 (upd (f 8) (((f 3 7).toInt.toNat) * 2) x), l)) rfl rfl (fl_bo rfl) rfl ?_
  refine fl_Tq.stp (pc' := 16) (lv' := [some (.inr (.inr (.inl (3, 3)))), some (.inl x), some (.inl y)]) (st' := [.inr (.inr (.inl (8, 8)))]) (m' := (fl_row f 8 (upd (f 8) (((f 3 7).toInt.toNat) * 2) x), l)) rfl rfl (fl_bo rfl) rfl ?_
  refine fl_Tq.stp (pc' := 17) (lv' := [some (.inr (.inr (.inl (3, 3)))), some (.inl x), some (.inl y)]) (st' := [.inr (.inr (.inl (3, 3))), .inr (.inr (.inl (8, 8)))]) (m' := (fl_row f 8 (upd (f 8) (((f 3 7).toInt.toNat) * 2) x), l)) rfl rfl (fl_bo rfl) rfl ?_
  refine fl_Tq.gfV (k := 7) (v := f 3 7) rfl (fl_bo rfl) rfl (by simp only [fl_row_ne (by decide : 3 ≠ 8)]) ?_
  refine fl_Tq.cI (c := (2 : Int32)) rfl (by decide +kernel) (fl_bo rfl) ?_
  refine fl_Tq.stp (pc' := 22) (lv' := [some (.inr (.inr (.inl (3, 3)))), some (.inl x), some (.inl y)]) (st' := [.inl ((f 3 7) * (2 : Int32)), .inr (.inr (.inl (8, 8)))]) (m' := (fl_row f 8 (upd (f 8) (((f 3 7).toInt.toNat) * 2) x), l)) rfl rfl (fl_bo rfl) rfl ?_
  refine fl_Tq.cI (c := (1 : Int32)) rfl (by decide +kernel) (fl_bo rfl) ?_
  refine fl_Tq.stp (pc' := 24) (lv' := [some (.inr (.inr (.inl (3, 3)))), some (.inl x), some (.inl y)]) (st' := [.inl (((f 3 7) * (2 : Int32)) + (1 : Int32)), .inr (.inr (.inl (8, 8)))]) (m' := (fl_row f 8 (upd (f 8) (((f 3 7).toInt.toNat) * 2) x), l)) rfl rfl (fl_bo rfl) rfl ?_
  refine fl_Tq.stp (pc' := 25) (lv' := [some (.inr (.inr (.inl (3, 3)))), some (.inl x), some (.inl y)]) (st' := [.inl y, .inl (((f 3 7) * (2 : Int32)) + (1 : Int32)), .inr (.inr (.inl (8, 8)))]) (m' := (fl_row f 8 (upd (f 8) (((f 3 7).toInt.toNat) * 2) x), l)) rfl rfl (fl_bo rfl) rfl ?_
  refine fl_Tq.svV (p := 8) (τ := 8) (n := 48) (z := (0, 0, 0)) (k := (((f 3 7).toInt.toNat) * 2) + 1) (m' := (fl_row f 8 (upd (upd (f 8) (((f 3 7).toInt.toNat) * 2) x) ((((f 3 7).toInt.toNat) * 2) + 1) y), l)) rfl (fl_bo rfl) rfl (t2_ia (t2_im (t2_nn hz.1) (by decide +kernel) (by omega)) (by decide +kernel) (by omega)) (by omega) (t2_upr) ?_
  refine fl_Tq.stp (pc' := 27) (lv' := [some (.inr (.inr (.inl (3, 3)))), some (.inl x), some (.inl y)]) (st' := [.inr (.inr (.inl (3, 3)))]) (m' := (fl_row f 8 (upd (upd (f 8) (((f 3 7).toInt.toNat) * 2) x) ((((f 3 7).toInt.toNat) * 2) + 1) y), l)) rfl rfl (fl_bo rfl) rfl ?_
  refine fl_Tq.stp (pc' := 28) (lv' := [some (.inr (.inr (.inl (3, 3)))), some (.inl x), some (.inl y)]) (st' := [.inr (.inr (.inl (3, 3))), .inr (.inr (.inl (3, 3)))]) (m' := (fl_row f 8 (upd (upd (f 8) (((f 3 7).toInt.toNat) * 2) x) ((((f 3 7).toInt.toNat) * 2) + 1) y), l)) rfl rfl (fl_bo rfl) rfl ?_
  refine fl_Tq.gfV (k := 7) (v := f 3 7) rfl (fl_bo rfl) rfl (by simp only [fl_row_ne (by decide : 3 ≠ 8)]) ?_
  refine fl_Tq.cI (c := (1 : Int32)) rfl (by decide +kernel) (fl_bo rfl) ?_
  refine fl_Tq.stp (pc' := 33) (lv' := [some (.inr (.inr (.inl (3, 3)))), some (.inl x), some (.inl y)]) (st' := [.inl ((f 3 7) + (1 : Int32)), .inr (.inr (.inl (3, 3)))]) (m' := (fl_row f 8 (upd (upd (f 8) (((f 3 7).toInt.toNat) * 2) x) ((((f 3 7).toInt.toNat) * 2) + 1) y), l)) rfl rfl (fl_bo rfl) rfl ?_
  refine fl_Tq.pfV (k := 7) (m' := (fl_row (fl_row f 8 (upd (upd (f 8) (((f 3 7).toInt.toNat) * 2) x) ((((f 3 7).toInt.toNat) * 2) + 1) y)) 3 (upd (f 3) 7 ((f 3 7) + (1 : Int32))), l)) rfl (fl_bo rfl) rfl (t2_upn (by rw [fl_row_ne (by decide : 3 ≠ 8)])) ?_
  refine fl_Tq.stp (pc' := 37) (lv' := [some (.inr (.inr (.inl (3, 3)))), some (.inl x), some (.inl y)]) (st' := [.inr (.inr (.inl (3, 3)))]) (m' := (fl_row (fl_row f 8 (upd (upd (f 8) (((f 3 7).toInt.toNat) * 2) x) ((((f 3 7).toInt.toNat) * 2) + 1) y)) 3 (upd (f 3) 7 ((f 3 7) + (1 : Int32))), l)) rfl rfl (fl_bo rfl) rfl ?_
  refine fl_Tq.gfV (k := 7) (v := (f 3 7) + (1 : Int32)) rfl (fl_bo rfl) rfl (by simp only [fl_row_self, upd_self]) ?_
  exact fl_Tq.ret rfl rfl rfl k
noncomputable def c0_addRule_v (f : t2_F) (x y z u v : Int32) : Int32 := (f 3 8) + (1 : Int32)
noncomputable def c0_addRule_m (f : t2_F) (x y z u v : Int32) : t2_F := fl_row (fl_row f 9 (upd (upd (upd (upd (upd (f 9) (((f 3 8).toInt.toNat) * 5) x) ((((f 3 8).toInt.toNat) * 5) + 1) y) ((((f 3 8).toInt.toNat) * 5) + 2) z) ((((f 3 8).toInt.toNat) * 5) + 3) u) ((((f 3 8).toInt.toNat) * 5) + 4) v)) 3 (upd (f 3) 8 ((f 3 8) + (1 : Int32)))
theorem c0_addRule_fr {f : t2_F} {x y z u v : Int32} {p : Nat} (e0 : p ≠ 9) (e1 : p ≠ 3) : c0_addRule_m f x y z u v p = f p := by
  unfold c0_addRule_m
  repeat' split
  all_goals first | rfl | simp only [fl_row_ne e0, fl_row_ne e1]
theorem c0_addRule_q {L : Nat} {xs : Nat → Int32} {f : t2_F} {l : t2_L} {Q : Option fl_V → fl_M → Prop} {x y z u v : Int32} (hz : 0 ≤ (f 3 8).toInt ∧ (f 3 8).toInt ≤ 7) (k : Q (some (.inl (c0_addRule_v f x y z u v))) (c0_addRule_m f x y z u v, l)) : fl_Tq (pw_P L xs) 84 0 (fl_args (am_mxl (pw_P L xs) 84) [.inr (.inr (.inl (3, 3))), .inl x, .inl y, .inl z, .inl u, .inl v]) [] (f, l) Q := by
  refine fl_Tq.stp (pc' := 1) (lv' := [some (.inr (.inr (.inl (3, 3)))), some (.inl x), some (.inl y), some (.inl z), some (.inl u), some (.inl v), none]) (st' := [.inr (.inr (.inl (3, 3)))]) (m' := (f, l)) rfl rfl (fl_bo rfl) rfl ?_
  refine fl_Tq.gfV (k := 8) (v := f 3 8) rfl (fl_bo rfl) rfl rfl ?_
  refine fl_Tq.cI (c := (5 : Int32)) rfl (by decide +kernel) (fl_bo rfl) ?_
  refine fl_Tq.stp (pc' := 6) (lv' := [some (.inr (.inr (.inl (3, 3)))), some (.inl x), some (.inl y), some (.inl z), some (.inl u), some (.inl v), none]) (st' := [.inl ((f 3 8) * (5 : Int32))]) (m' := (f, l)) rfl rfl (fl_bo rfl) rfl ?_
  refine fl_Tq.stp (pc' := 8) (lv' := [some (.inr (.inr (.inl (3, 3)))), some (.inl x), some (.inl y), some (.inl z), some (.inl u), some (.inl v), some (.inl ((f 3 8) * (5 : Int32)))]) (st' := []) (m' := (f, l)) rfl rfl (fl_bo rfl) rfl ?_
  refine fl_Tq.stp (pc' := 9) (lv' := [some (.inr (.inr (.inl (3, 3)))), some (.inl x), some (.inl y), some (.inl z), some (.inl u), some (.inl v), some (.inl ((f 3 8) * (5 : Int32)))]) (st' := [.inr (.inr (.inl (3, 3)))]) (m' := (f, l)) rfl rfl (fl_bo rfl) rfl ?_
  refine fl_Tq.stp (pc' := 12) (lv' := [some (.inr (.inr (.inl (3, 3)))), some (.inl x), some (.inl y), some (.inl z), some (.inl u), some (.inl v), some (.inl ((f 3 8) * (5 : Int32)))]) (st' := [.inr (.inr (.inl (9, 9)))]) (m' := (f, l)) rfl rfl (fl_bo rfl) rfl ?_
  refine fl_Tq.stp (pc' := 14) (lv' := [some (.inr (.inr (.inl (3, 3)))), some (.inl x), some (.inl y), some (.inl z), some (.inl u), some (.inl v), some (.inl ((f 3 8) * (5 : Int32)))]) (st' := [.inl ((f 3 8) * (5 : Int32)), .inr (.inr (.inl (9, 9)))]) (m' := (f, l)) rfl rfl (fl_bo rfl) rfl ?_
  refine fl_Tq.stp (pc' := 15) (lv' := [some (.inr (.inr (.inl (3, 3)))), some (.inl x), some (.inl y), some (.inl z), some (.inl u), some (.inl v), some (.inl ((f 3 8) * (5 : Int32)))]) (st' := [.inl x, .inl ((f 3 8) * (5 : Int32)), .inr (.inr (.inl (9, 9)))]) (m' := (f, l)) rfl rfl (fl_bo rfl) rfl ?_
  refine fl_Tq.svV (p := 9) (τ := 9) (n := 40) (z := (0, 0, 0)) (k := ((f 3 8).toInt.toNat) * 5) (m' := (fl_row f 9 (upd (f 9) (((f 3 8).toInt.toNat) * 5) x), l)) rfl (fl_bo rfl) rfl (t2_im (t2_nn hz.1) (by decide +kernel) (by omega)) (by omega) (t2_upn rfl) ?_
  refine fl_Tq.stp (pc' := 17) (lv' := [some (.inr (.inr (.inl (3, 3)))), some (.inl x), some (.inl y), some (.inl z), some (.inl u), some (.inl v), some (.inl ((f 3 8) * (5 : Int32)))]) (st' := [.inr (.inr (.inl (3, 3)))]) (m' := (fl_row f 9 (upd (f 9) (((f 3 8).toInt.toNat) * 5) x), l)) rfl rfl (fl_bo rfl) rfl ?_
  refine fl_Tq.stp (pc' := 20) (lv' := [some (.inr (.inr (.inl (3, 3)))), some (.inl x), some (.inl y), some (.inl z), some (.inl u), some (.inl v), some (.inl ((f 3 8) * (5 : Int32)))]) (st' := [.inr (.inr (.inl (9, 9)))]) (m' := (fl_row f 9 (upd (f 9) (((f 3 8).toInt.toNat) * 5) x), l)) rfl rfl (fl_bo rfl) rfl ?_
  refine fl_Tq.stp (pc' := 22) (lv' := [some (.inr (.inr (.inl (3, 3)))), some (.inl x), some (.inl y), some (.inl z), some (.inl u), some (.inl v), some (.inl ((f 3 8) * (5 : Int32)))]) (st' := [.inl ((f 3 8) * (5 : Int32)), .inr (.inr (.inl (9, 9)))]) (m' := (fl_row f 9 (upd (f 9) (((f 3 8).toInt.toNat) * 5) x), l)) rfl rfl (fl_bo rfl) rfl ?_
  refine fl_Tq.cI (c := (1 : Int32)) rfl (by decide +kernel) (fl_bo rfl) ?_
  refine fl_Tq.stp (pc' := 24) (lv' := [some (.inr (.inr (.inl (3, 3)))), some (.inl x), some (.inl y), some (.inl z), some (.inl u), some (.inl v), some (.inl ((f 3 8) * (5 : Int32)))]) (st' := [.inl (((f 3 8) * (5 : Int32)) + (1 : Int32)), .inr (.inr (.inl (9, 9)))]) (m' := (fl_row f 9 (upd (f 9) (((f 3 8).toInt.toNat) * 5) x), l)) rfl rfl (fl_bo rfl) rfl ?_
  refine fl_Tq.stp (pc' := 25) (lv' := [some (.inr (.inr (.inl (3, 3)))), some (.inl x), some (.inl y), some (.inl z), some (.inl u), some (.inl v), some (.inl ((f 3 8) * (5 : Int32)))]) (st' := [.inl y, .inl (((f 3 8) * (5 : Int32)) + (1 : Int32)), .inr (.inr (.inl (9, 9)))]) (m' := (fl_row f 9 (upd (f 9) (((f 3 8).toInt.toNat) * 5) x), l)) rfl rfl (fl_bo rfl) rfl ?_
  refine fl_Tq.svV (p := 9) (τ := 9) (n := 40) (z := (0, 0, 0)) (k := (((f 3 8).toInt.toNat) * 5) + 1) (m' := (fl_row f 9 (upd (upd (f 9) (((f 3 8).toInt.toNat) * 5) x) ((((f 3 8).toInt.toNat) * 5) + 1) y), l)) rfl (fl_bo rfl) rfl (t2_ia (t2_im (t2_nn hz.1) (by decide +kernel) (by omega)) (by decide +kernel) (by omega)) (by omega) (t2_upr) ?_
  refine fl_Tq.stp (pc' := 27) (lv' := [some (.inr (.inr (.inl (3, 3)))), some (.inl x), some (.inl y), some (.inl z), some (.inl u), some (.inl v), some (.inl ((f 3 8) * (5 : Int32)))]) (st' := [.inr (.inr (.inl (3, 3)))]) (m' := (fl_row f 9 (upd (upd (f 9) (((f 3 8).toInt.toNat) * 5) x) ((((f 3 8).toInt.toNat) * 5) + 1) y), l)) rfl rfl (fl_bo rfl) rfl ?_
  refine fl_Tq.stp (pc' := 30) (lv' := [some (.inr (.inr (.inl (3, 3)))), some (.inl x), some (.inl y), some (.inl z), some (.inl u), some (.inl v), some (.inl ((f 3 8) * (5 : Int32)))]) (st' := [.inr (.inr (.inl (9, 9)))]) (m' := (fl_row f 9 (upd (upd (f 9) (((f 3 8).toInt.toNat) * 5) x) ((((f 3 8).toInt.toNat) * 5) + 1) y), l)) rfl rfl (fl_bo rfl) rfl ?_
  refine fl_Tq.stp (pc' := 32) (lv' := [some (.inr (.inr (.inl (3, 3)))), some (.inl x), some (.inl y), some (.inl z), some (.inl u), some (.inl v), some (.inl ((f 3 8) * (5 : Int32)))]) (st' := [.inl ((f 3 8) * (5 : Int32)), .inr (.inr (.inl (9, 9)))]) (m' := (fl_row f 9 (upd (upd (f 9) (((f 3 8).toInt.toNat) * 5) x) ((((f 3 8).toInt.toNat) * 5) + 1) y), l)) rfl rfl (fl_bo rfl) rfl ?_
  refine fl_Tq.cI (c := (2 : Int32)) rfl (by decide +kernel) (fl_bo rfl) ?_
  refine fl_Tq.stp (pc' := 34) (lv' := [some (.inr (.inr (.inl (3, 3)))), some (.inl x), some (.inl y), some (.inl z), some (.inl u), some (.inl v), some (.inl ((f 3 8) * (5 : Int32)))]) (st' := [.inl (((f 3 8) * (5 : Int32)) + (2 : Int32)), .inr (.inr (.inl (9, 9)))]) (m' := (fl_row f 9 (upd (upd (f 9) (((f 3 8).toInt.toNat) * 5) x) ((((f 3 8).toInt.toNat) * 5) + 1) y), l)) rfl rfl (fl_bo rfl) rfl ?_
  refine fl_Tq.stp (pc' := 35) (lv' := [some (.inr (.inr (.inl (3, 3)))), some (.inl x), some (.inl y), some (.inl z), some (.inl u), some (.inl v), some (.inl ((f 3 8) * (5 : Int32)))]) (st' := [.inl z, .inl (((f 3 8) * (5 : Int32)) + (2 : Int32)), .inr (.inr (.inl (9, 9)))]) (m' := (fl_row f 9 (upd (upd (f 9) (((f 3 8).toInt.toNat) * 5) x) ((((f 3 8).toInt.toNat) * 5) + 1) y), l)) rfl rfl (fl_bo rfl) rfl ?_
  refine fl_Tq.svV (p := 9) (τ := 9) (n := 40) (z := (0, 0, 0)) (k := (((f 3 8).toInt.toNat) * 5) + 2) (m' := (fl_row f 9 (upd (upd (upd (f 9) (((f 3 8).toInt.toNat) * 5) x) ((((f 3 8).toInt.toNat) * 5) + 1) y) ((((f 3 8).toInt.toNat) * 5) + 2) z), l)) rfl (fl_bo rfl) rfl (t2_ia (t2_im (t2_nn hz.1) (by decide +kernel) (by omega)) (by decide +kernel) (by omega)) (by omega) (t2_upr) ?_
  refine fl_Tq.stp (pc' := 37) (lv' := [some (.inr (.inr (.inl (3, 3)))), some (.inl x), some (.inl y), some (.inl z), some (.inl u), some (.inl v), some (.inl ((f 3 8) * (5 : Int32)))]) (st' := [.inr (.inr (.inl (3, 3)))]) (m' := (fl_row f 9 (upd (upd (upd (f 9) (((f 3 8).toInt.toNat) * 5) x) ((((f 3 8).toInt.toNat) * 5) + 1) y) ((((f 3 8).toInt.toNat) * 5) + 2) z), l)) rfl rfl (fl_bo rfl) rfl ?_
  refine fl_Tq.stp (pc' := 40) (lv' := [some (.inr (.inr (.inl (3, 3)))), some (.inl x), some (.inl y), some (.inl z), some (.inl u), some (.inl v), some (.inl ((f 3 8) * (5 : Int32)))]) (st' := [.inr (.inr (.inl (9, 9)))]) (m' := (fl_row f 9 (upd (upd (upd (f 9) (((f 3 8).toInt.toNat) * 5) x) ((((f 3 8).toInt.toNat) * 5) + 1) y) ((((f 3 8).toInt.toNat) * 5) + 2) z), l)) rfl rfl (fl_bo rfl) rfl ?_
  refine fl_Tq.stp (pc' := 42) (lv' := [some (.inr (.inr (.inl (3, 3)))), some (.inl x), some (.inl y), some (.inl z), some (.inl u), some (.inl v), some (.inl ((f 3 8) * (5 : Int32)))]) (st' := [.inl ((f 3 8) * (5 : Int32)), .inr (.inr (.inl (9, 9)))]) (m' := (fl_row f 9 (upd (upd (upd (f 9) (((f 3 8).toInt.toNat) * 5) x) ((((f 3 8).toInt.toNat) * 5) + 1) y) ((((f 3 8).toInt.toNat) * 5) + 2) z), l)) rfl rfl (fl_bo rfl) rfl ?_
  refine fl_Tq.cI (c := (3 : Int32)) rfl (by decide +kernel) (fl_bo rfl) ?_
  refine fl_Tq.stp (pc' := 44) (lv' := [some (.inr (.inr (.inl (3, 3)))), some (.inl x), some (.inl y), some (.inl z), some (.inl u), some (.inl v), some (.inl ((f 3 8) * (5 : Int32)))]) (st' := [.inl (((f 3 8) * (5 : Int32)) + (3 : Int32)), .inr (.inr (.inl (9, 9)))]) (m' := (fl_row f 9 (upd (upd (upd (f 9) (((f 3 8).toInt.toNat) * 5) x) ((((f 3 8).toInt.toNat) * 5) + 1) y) ((((f 3 8).toInt.toNat) * 5) + 2) z), l)) rfl rfl (fl_bo rfl) rfl ?_
  refine fl_Tq.stp (pc' := 46) (lv' := [some (.inr (.inr (.inl (3, 3)))), some (.inl x), some (.inl y), some (.inl z), some (.inl u), some (.inl v), some (.inl ((f 3 8) * (5 : Int32)))]) (st' := [.inl u, .inl (((f 3 8) * (5 : Int32)) + (3 : Int32)), .inr (.inr (.inl (9, 9)))]) (m' := (fl_row f 9 (upd (upd (upd (f 9) (((f 3 8).toInt.toNat) * 5) x) ((((f 3 8).toInt.toNat) * 5) + 1) y) ((((f 3 8).toInt.toNat) * 5) + 2) z), l)) rfl rfl (fl_bo rfl) rfl ?_
  refine fl_Tq.svV (p := 9) (τ := 9) (n := 40) (z := (0, 0, 0)) (k := (((f 3 8).toInt.toNat) * 5) + 3) (m' := (fl_row f 9 (upd (upd (upd (upd (f 9) (((f 3 8).toInt.toNat) * 5) x) ((((f 3 8).toInt.toNat) * 5) + 1) y) ((((f 3 8).toInt.toNat) * 5) + 2) z) ((((f 3 8).toInt.toNat) * 5) + 3) u), l)) rfl (fl_bo rfl) rfl (t2_ia (t2_im (t2_nn hz.1) (by decide +kernel) (by omega)) (by decide +kernel) (by omega)) (by omega) (t2_upr) ?_
  refine fl_Tq.stp (pc' := 48) (lv' := [some (.inr (.inr (.inl (3, 3)))), some (.inl x), some (.inl y), some (.inl z), some (.inl u), some (.inl v), some (.inl ((f 3 8) * (5 : Int32)))]) (st' := [.inr (.inr (.inl (3, 3)))]) (m' := (fl_row f 9 (upd (upd (upd (upd (f 9) (((f 3 8).toInt.toNat) * 5) x) ((((f 3 8).toInt.toNat) * 5) + 1) y) ((((f 3 8).toInt.toNat) * 5) + 2) z) ((((f 3 8).toInt.toNat) * 5) + 3) u), l)) rfl rfl (fl_bo rfl) rfl ?_
  refine fl_Tq.stp (pc' := 51) (lv' := [some (.inr (.inr (.inl (3, 3)))), some (.inl x), some (.inl y), some (.inl z), some (.inl u), some (.inl v), some (.inl ((f 3 8) * (5 : Int32)))]) (st' := [.inr (.inr (.inl (9, 9)))]) (m' := (fl_row f 9 (upd (upd (upd (upd (f 9) (((f 3 8).toInt.toNat) * 5) x) ((((f 3 8).toInt.toNat) * 5) + 1) y) ((((f 3 8).toInt.toNat) * 5) + 2) z) ((((f 3 8).toInt.toNat) * 5) + 3) u), l)) rfl rfl (fl_bo rfl) rfl ?_
  refine fl_Tq.stp (pc' := 53) (lv' := [some (.inr (.inr (.inl (3, 3)))), some (.inl x), some (.inl y), some (.inl z), some (.inl u), some (.inl v), some (.inl ((f 3 8) * (5 : Int32)))]) (st' := [.inl ((f 3 8) * (5 : Int32)), .inr (.inr (.inl (9, 9)))]) (m' := (fl_row f 9 (upd (upd (upd (upd (f 9) (((f 3 8).toInt.toNat) * 5) x) ((((f 3 8).toInt.toNat) * 5) + 1) y) ((((f 3 8).toInt.toNat) * 5) + 2) z) ((((f 3 8).toInt.toNat) * 5) + 3) u), l)) rfl rfl (fl_bo rfl) rfl ?_
  refine fl_Tq.cI (c := (4 : Int32)) rfl (by decide +kernel) (fl_bo rfl) ?_
  refine fl_Tq.stp (pc' := 55) (lv' := [some (.inr (.inr (.inl (3, 3)))), some (.inl x), some (.inl y), some (.inl z), some (.inl u), some (.inl v), some (.inl ((f 3 8) * (5 : Int32)))]) (st' := [.inl (((f 3 8) * (5 : Int32)) + (4 : Int32)), .inr (.inr (.inl (9, 9)))]) (m' := (fl_row f 9 (upd (upd (upd (upd (f 9) (((f 3 8).toInt.toNat) * 5) x) ((((f 3 8).toInt.toNat) * 5) + 1) y) ((((f 3 8).toInt.toNat) * 5) + 2) z) ((((f 3 8).toInt.toNat) * 5) + 3) u), l)) rfl rfl (fl_bo rfl) rfl ?_
  refine fl_Tq.stp (pc' := 57) (lv' := [some (.inr (.inr (.inl (3, 3)))), some (.inl x), some (.inl y), some (.inl z), some (.inl u), some (.inl v), some (.inl ((f 3 8) * (5 : Int32)))]) (st' := [.inl v, .inl (((f 3 8) * (5 : Int32)) + (4 : Int32)), .inr (.inr (.inl (9, 9)))]) (m' := (fl_row f 9 (upd (upd (upd (upd (f 9) (((f 3 8).toInt.toNat) * 5) x) ((((f 3 8).toInt.toNat) * 5) + 1) y) ((((f 3 8).toInt.toNat) * 5) + 2) z) ((((f 3 8).toInt.toNat) * 5) + 3) u), l)) rfl rfl (fl_bo rfl) rfl ?_
  refine fl_Tq.svV (p := 9) (τ := 9) (n := 40) (z := (0, 0, 0)) (k := (((f 3 8).toInt.toNat) * 5) + 4) (m' := (fl_row f 9 (upd (upd (upd (upd (upd (f 9) (((f 3 8).toInt.toNat) * 5) x) ((((f 3 8).toInt.toNat) * 5) + 1) y) ((((f 3 8).toInt.toNat) * 5) + 2) z) ((((f 3 8).toInt.toNat) * 5) + 3) u) ((((f 3 8).toInt.toNat) * 5) + 4) v), l)) rfl (fl_bo rfl) rfl (t2_ia (t2_im (t2_nn hz.1) (by decide +kernel) (by omega)) (by decide +kernel) (by omega)) (by omega) (t2_upr) ?_
  refine fl_Tq.stp (pc' := 59) (lv' := [some (.inr (.inr (.inl (3, 3)))), some (.inl x), some (.inl y), some (.inl z), some (.inl u), some (.inl v), some (.inl ((f 3 8) * (5 : Int32)))]) (st' := [.inr (.inr (.inl (3, 3)))]) (m' := (fl_row f 9 (upd (upd (upd (upd (upd (f 9) (((f 3 8).toInt.toNat) * 5) x) ((((f 3 8).toInt.toNat) * 5) + 1) y) ((((f 3 8).toInt.toNat) * 5) + 2) z) ((((f 3 8).toInt.toNat) * 5) + 3) u) ((((f 3 8).toInt.toNat) * 5) + 4) v), l)) rfl rfl (fl_bo rfl) rfl ?_
  refine fl_Tq.stp (pc' := 60) (lv' := [some (.inr (.inr (.inl (3, 3)))), some (.inl x), some (.inl y), some (.inl z), some (.inl u), some (.inl v), some (.inl ((f 3 8) * (5 : Int32)))]) (st' := [.inr (.inr (.inl (3, 3))), .inr (.inr (.inl (3, 3)))]) (m' := (fl_row f 9 (upd (upd (upd (upd (upd (f 9) (((f 3 8).toInt.toNat) * 5) x) ((((f 3 8).toInt.toNat) * 5) + 1) y) ((((f 3 8).toInt.toNat) * 5) + 2) z) ((((f 3 8).toInt.toNat) * 5) + 3) u) ((((f 3 8).toInt.toNat) * 5) + 4) v), l)) rfl rfl (fl_bo rfl) rfl ?_
  refine fl_Tq.gfV (k := 8) (v := f 3 8) rfl (fl_bo rfl) rfl (by simp only [fl_row_ne (by decide : 3 ≠ 9)]) ?_
  refine fl_Tq.cI (c := (1 : Int32)) rfl (by decide +kernel) (fl_bo rfl) ?_
  refine fl_Tq.stp (pc' := 65) (lv' := [some (.inr (.inr (.inl (3, 3)))), some (.inl x), some (.inl y), some (.inl z), some (.inl u), some (.inl v), some (.inl ((f 3 8) * (5 : Int32)))]) (st' := [.inl ((f 3 8) + (1 : Int32)), .inr (.inr (.inl (3, 3)))]) (m' := (fl_row f 9 (upd (upd (upd (upd (upd (f 9) (((f 3 8).toInt.toNat) * 5) x) ((((f 3 8).toInt.toNat) * 5) + 1) y) ((((f 3 8).toInt.toNat) * 5) + 2) z) ((((f 3 8).toInt.toNat) * 5) + 3) u) ((((f 3 8).toInt.toNat) * 5) + 4) v), l)) rfl rfl (fl_bo rfl) rfl ?_
  refine fl_Tq.pfV (k := 8) (m' := (fl_row (fl_row f 9 (upd (upd (upd (upd (upd (f 9) (((f 3 8).toInt.toNat) * 5) x) ((((f 3 8).toInt.toNat) * 5) + 1) y) ((((f 3 8).toInt.toNat) * 5) + 2) z) ((((f 3 8).toInt.toNat) * 5) + 3) u) ((((f 3 8).toInt.toNat) * 5) + 4) v)) 3 (upd (f 3) 8 ((f 3 8) + (1 : Int32))), l)) rfl (fl_bo rfl) rfl (t2_upn (by rw [fl_row_ne (by decide : 3 ≠ 9)])) ?_
  refine fl_Tq.stp (pc' := 69) (lv' := [some (.inr (.inr (.inl (3, 3)))), some (.inl x), some (.inl y), some (.inl z), some (.inl u), some (.inl v), some (.inl ((f 3 8) * (5 : Int32)))]) (st' := [.inr (.inr (.inl (3, 3)))]) (m' := (fl_row (fl_row f 9 (upd (upd (upd (upd (upd (f 9) (((f 3 8).toInt.toNat) * 5) x) ((((f 3 8).toInt.toNat) * 5) + 1) y) ((((f 3 8).toInt.toNat) * 5) + 2) z) ((((f 3 8).toInt.toNat) * 5) + 3) u) ((((f 3 8).toInt.toNat) * 5) + 4) v)) 3 (upd (f 3) 8 ((f 3 8) + (1 : Int32))), l)) rfl rfl (fl_bo rfl) rfl ?_
  refine fl_Tq.gfV (k := 8) (v := (f 3 8) + (1 : Int32)) rfl (fl_bo rfl) rfl (by simp only [fl_row_self, upd_self]) ?_
  exact fl_Tq.ret rfl rfl rfl k
noncomputable def c0_pieceSeconds_a4 (f : t2_F) : Nat → Int32
  | 0 => (0 : Int32)
  | k4 + 1 => (c0_pieceSeconds_a4 f k4) + (f 8 ((k4 * 2) + 1))
noncomputable def c0_pieceSeconds_v (f : t2_F) : Int32 := c0_pieceSeconds_a4 f ((f 3 7).toInt.toNat)
theorem c0_pieceSeconds_q {L : Nat} {xs : Nat → Int32} {f : t2_F} {l : t2_L} {Q : Option fl_V → fl_M → Prop}  (hz : 0 ≤ (f 3 7).toInt ∧ (f 3 7).toInt ≤ 24) (k : Q (some (.inl (c0_pieceSeconds_v f))) (f, l)) : fl_Tq (pw_P L xs) 82 0 (fl_args (am_mxl (pw_P L xs) 82) [.inr (.inr (.inl (3, 3)))]) [] (f, l) Q := by
  refine fl_Tq.cI (c := (0 : Int32)) rfl (by decide +kernel) (fl_bo rfl) ?_
  refine fl_Tq.stp (pc' := 2) (lv' := [some (.inr (.inr (.inl (3, 3)))), some (.inl (0 : Int32)), none]) (st' := []) (m' := (f, l)) rfl rfl (fl_bo rfl) rfl ?_
  refine fl_Tq.cI (c := (0 : Int32)) rfl (by decide +kernel) (fl_bo rfl) ?_
  refine fl_Tq.stp (pc' := 4) (lv' := [some (.inr (.inr (.inl (3, 3)))), some (.inl (0 : Int32)), some (.inl (0 : Int32))]) (st' := []) (m' := (f, l)) rfl rfl (fl_bo rfl) rfl ?_
  have hs4 : ∀ k4 : Nat, k4 < (f 3 7).toInt.toNat → fl_Tq (pw_P L xs) 82 4 [some (.inr (.inr (.inl (3, 3)))), some (.inl (c0_pieceSeconds_a4 f (k4 + 1))), some (.inl (Int32.ofNat (k4 + 1)))] [] (f, l) Q → fl_Tq (pw_P L xs) 82 4 [some (.inr (.inr (.inl (3, 3)))), some (.inl (c0_pieceSeconds_a4 f k4)), some (.inl (Int32.ofNat k4))] [] (f, l) Q := by
    intro k4 hk4 hS
    refine fl_Tq.stp (pc' := 5) (lv' := [some (.inr (.inr (.inl (3, 3)))), some (.inl (c0_pieceSeconds_a4 f k4)), some (.inl (Int32.ofNat k4))]) (st' := [.inl (Int32.ofNat k4)]) (m' := (f, l)) rfl rfl (fl_bo rfl) rfl ?_
    refine fl_Tq.stp (pc' := 6) (lv' := [some (.inr (.inr (.inl (3, 3)))), some (.inl (c0_pieceSeconds_a4 f k4)), some (.inl (Int32.ofNat k4))]) (st' := [.inr (.inr (.inl (3, 3))), .inl (Int32.ofNat k4)]) (m' := (f, l)) rfl rfl (fl_bo rfl) rfl ?_
    refine fl_Tq.gfV (k := 7) (v := f 3 7) rfl (fl_bo rfl) rfl rfl ?_
    refine fl_Tq.jf rfl (fl_bo rfl) (c2_ge_f (t2_lk hk4 (t2_nn hz.1))) rfl ?_
    refine fl_Tq.stp (pc' := 13) (lv' := [some (.inr (.inr (.inl (3, 3)))), some (.inl (c0_pieceSeconds_a4 f k4)), some (.inl (Int32.ofNat k4))]) (st' := [.inl (c0_pieceSeconds_a4 f k4)]) (m' := (f, l)) rfl rfl (fl_bo rfl) rfl ?_
    refine fl_Tq.stp (pc' := 14) (lv' := [some (.inr (.inr (.inl (3, 3)))), some (.inl (c0_pieceSeconds_a4 f k4)), some (.inl (Int32.ofNat k4))]) (st' := [.inr (.inr (.inl (3, 3))), .inl (c0_pieceSeconds_a4 f k4)]) (m' := (f, l)) rfl rfl (fl_bo rfl) rfl ?_
    refine fl_Tq.stp (pc' := 17) (lv' := [some (.inr (.inr (.inl (3, 3)))), some (.inl (c0_pieceSeconds_a4 f k4)), some (.inl (Int32.ofNat k4))]) (st' := [.inr (.inr (.inl (8, 8))), .inl (c0_pieceSeconds_a4 f k4)]) (m' := (f, l)) rfl rfl (fl_bo rfl) rfl ?_
    refine fl_Tq.stp (pc' := 18) (lv' := [some (.inr (.inr (.inl (3, 3)))), some (.inl (c0_pieceSeconds_a4 f k4)), some (.inl (Int32.ofNat k4))]) (st' := [.inl (Int32.ofNat k4), .inr (.inr (.inl (8, 8))), .inl (c0_pieceSeconds_a4 f k4)]) (m' := (f, l)) rfl rfl (fl_bo rfl) rfl ?_
    refine fl_Tq.cI (c := (2 : Int32)) rfl (by decide +kernel) (fl_bo rfl) ?_
    refine fl_Tq.stp (pc' := 20) (lv' := [some (.inr (.inr (.inl (3, 3)))), some (.inl (c0_pieceSeconds_a4 f k4)), some (.inl (Int32.ofNat k4))]) (st' := [.inl ((Int32.ofNat k4) * (2 : Int32)), .inr (.inr (.inl (8, 8))), .inl (c0_pieceSeconds_a4 f k4)]) (m' := (f, l)) rfl rfl (fl_bo rfl) rfl ?_
    refine fl_Tq.cI (c := (1 : Int32)) rfl (by decide +kernel) (fl_bo rfl) ?_
    refine fl_Tq.stp (pc' := 22) (lv' := [some (.inr (.inr (.inl (3, 3)))), some (.inl (c0_pieceSeconds_a4 f k4)), some (.inl (Int32.ofNat k4))]) (st' := [.inl (((Int32.ofNat k4) * (2 : Int32)) + (1 : Int32)), .inr (.inr (.inl (8, 8))), .inl (c0_pieceSeconds_a4 f k4)]) (m' := (f, l)) rfl rfl (fl_bo rfl) rfl ?_
    refine fl_Tq.ldV (p := 8) (τ := 8) (n := 48) (z := (0, 0, 0)) (k := (k4 * 2) + 1) (v := f 8 ((k4 * 2) + 1)) rfl (fl_bo rfl) rfl (t2_ia (t2_im (at_ofN (by omega)) (by decide +kernel) (by omega)) (by decide +kernel) (by omega)) (by omega) rfl ?_
    refine fl_Tq.stp (pc' := 24) (lv' := [some (.inr (.inr (.inl (3, 3)))), some (.inl (c0_pieceSeconds_a4 f k4)), some (.inl (Int32.ofNat k4))]) (st' := [.inl ((c0_pieceSeconds_a4 f k4) + (f 8 ((k4 * 2) + 1)))]) (m' := (f, l)) rfl rfl (fl_bo rfl) rfl ?_
    refine fl_Tq.stp (pc' := 25) (lv' := [some (.inr (.inr (.inl (3, 3)))), some (.inl ((c0_pieceSeconds_a4 f k4) + (f 8 ((k4 * 2) + 1)))), some (.inl (Int32.ofNat k4))]) (st' := []) (m' := (f, l)) rfl rfl (fl_bo rfl) rfl ?_
    refine fl_Tq.stp (pc' := 28) (lv' := [some (.inr (.inr (.inl (3, 3)))), some (.inl ((c0_pieceSeconds_a4 f k4) + (f 8 ((k4 * 2) + 1)))), some (.inl ((Int32.ofNat k4) + (1 : Int32)))]) (st' := []) (m' := (f, l)) rfl rfl (fl_bo rfl) rfl ?_
    refine fl_Tq.stp (pc' := 4) (lv' := [some (.inr (.inr (.inl (3, 3)))), some (.inl ((c0_pieceSeconds_a4 f k4) + (f 8 ((k4 * 2) + 1)))), some (.inl ((Int32.ofNat k4) + (1 : Int32)))]) (st' := []) (m' := (f, l)) rfl rfl (fl_bo rfl) rfl ?_
    have ea : c0_pieceSeconds_a4 f (k4 + 1) = (c0_pieceSeconds_a4 f k4) + (f 8 ((k4 * 2) + 1)) := by
      show ((c0_pieceSeconds_a4 f k4) + (f 8 ((k4 * 2) + 1))) = _
      rfl
    rw [ea, ← t2_k1] at hS
    exact hS
  refine t2_for (S := fun k4 => fl_Tq (pw_P L xs) 82 4 [some (.inr (.inr (.inl (3, 3)))), some (.inl (c0_pieceSeconds_a4 f k4)), some (.inl (Int32.ofNat k4))] [] (f, l) Q) hs4 ?_
  show fl_Tq (pw_P L xs) 82 4 [some (.inr (.inr (.inl (3, 3)))), some (.inl (c0_pieceSeconds_a4 f ((f 3 7).toInt.toNat))), some (.inl (Int32.ofNat ((f 3 7).toInt.toNat)))] [] (f, l) _
  refine fl_Tq.stp (pc' := 5) (lv' := [some (.inr (.inr (.inl (3, 3)))), some (.inl (c0_pieceSeconds_a4 f ((f 3 7).toInt.toNat))), some (.inl (Int32.ofNat ((f 3 7).toInt.toNat)))]) (st' := [.inl (Int32.ofNat ((f 3 7).toInt.toNat))]) (m' := (f, l)) rfl rfl (fl_bo rfl) rfl ?_
  refine fl_Tq.stp (pc' := 6) (lv' := [some (.inr (.inr (.inl (3, 3)))), some (.inl (c0_pieceSeconds_a4 f ((f 3 7).toInt.toNat))), some (.inl (Int32.ofNat ((f 3 7).toInt.toNat)))]) (st' := [.inr (.inr (.inl (3, 3))), .inl (Int32.ofNat ((f 3 7).toInt.toNat))]) (m' := (f, l)) rfl rfl (fl_bo rfl) rfl ?_
  refine fl_Tq.gfV (k := 7) (v := f 3 7) rfl (fl_bo rfl) rfl rfl ?_
  refine fl_Tq.jt rfl (fl_bo rfl) (c2_ge_t (t2_ln (t2_nn hz.1))) rfl ?_
  refine fl_Tq.stp (pc' := 32) (lv' := [some (.inr (.inr (.inl (3, 3)))), some (.inl (c0_pieceSeconds_a4 f ((f 3 7).toInt.toNat))), some (.inl (Int32.ofNat ((f 3 7).toInt.toNat)))]) (st' := [.inl (c0_pieceSeconds_a4 f ((f 3 7).toInt.toNat))]) (m' := (f, l)) rfl rfl (fl_bo rfl) rfl ?_
  exact fl_Tq.ret rfl rfl rfl k
noncomputable def c0_goesOn_j34_0 (f : t2_F) (i : Nat) (x : Int32) : Int32 := if (f (20 + 4 * i) (((f (19 + 4 * i) 2).toInt.toNat) - 2)).toInt < (f (20 + 4 * i) (((f (19 + 4 * i) 2).toInt.toNat) - 1)).toInt then (1 : Int32) else (0 : Int32)
noncomputable def c0_goesOn_j44_0 (f : t2_F) (i : Nat) (x : Int32) : Int32 := if (f (20 + 4 * i) (((f (19 + 4 * i) 2).toInt.toNat) - 1)).toInt < x.toInt then (1 : Int32) else (0 : Int32)
noncomputable def c0_goesOn_v (f : t2_F) (i : Nat) (x : Int32) : Int32 := if (f (19 + 4 * i) 2).toInt < (2 : Int32).toInt then (0 : Int32) else (if (c0_goesOn_j34_0 f i x).toInt = (c0_goesOn_j44_0 f i x).toInt then (1 : Int32) else (0 : Int32))
theorem c0_goesOn_q {L : Nat} {xs : Nat → Int32} {f : t2_F} {l : t2_L} {Q : Option fl_V → fl_M → Prop} {i : Nat} {x : Int32} (hi : i < 16) (ht : 0 ≤ (f (19 + 4 * i) 2).toInt ∧ (f (19 + 4 * i) 2).toInt ≤ 32) (k : Q (some (.inl (c0_goesOn_v f i x))) (f, l)) : fl_Tq (pw_P L xs) 89 0 (fl_args (am_mxl (pw_P L xs) 89) [.inr (.inr (.inl (19, 19 + 4 * i))), .inl x]) [] (f, l) Q := by
  refine fl_Tq.stp (pc' := 1) (lv' := [some (.inr (.inr (.inl (19, 19 + 4 * i)))), some (.inl x), none]) (st' := [.inr (.inr (.inl (19, 19 + 4 * i)))]) (m' := (f, l)) rfl rfl (fl_bo rfl) rfl ?_
  refine fl_Tq.gfV (k := 2) (v := f (19 + 4 * i) 2) rfl (fl_oks_ok ⟨(t2_kt0 (by omega)), True.intro⟩) rfl rfl ?_
  refine fl_Tq.cI (c := (2 : Int32)) rfl (by decide +kernel) (fl_bo rfl) ?_
  by_cases h1 : (f (19 + 4 * i) 2).toInt < (2 : Int32).toInt
  · refine fl_Tq.jf rfl (fl_bo rfl) (c2_ge_f h1) rfl ?_
    refine fl_Tq.cI (c := (0 : Int32)) rfl (by decide +kernel) (fl_bo rfl) ?_
    refine fl_Tq.ret rfl rfl rfl ?_
    unfold c0_goesOn_v at k
    simp only [if_pos h1] at k
    exact k
  · refine fl_Tq.jt rfl (fl_bo rfl) (c2_ge_t h1) rfl ?_
    refine fl_Tq.stp (pc' := 11) (lv' := [some (.inr (.inr (.inl (19, 19 + 4 * i)))), some (.inl x), none]) (st' := [.inr (.inr (.inl (19, 19 + 4 * i)))]) (m' := (f, l)) rfl rfl (fl_bo rfl) rfl ?_
    refine fl_Tq.gfR (d := 1) (p' := 20 + 4 * i) rfl (fl_oks_ok ⟨(t2_kt0 (by omega)), True.intro⟩) rfl (by omega) ?_
    refine fl_Tq.stp (pc' := 15) (lv' := [some (.inr (.inr (.inl (19, 19 + 4 * i)))), some (.inl x), none]) (st' := [.inr (.inr (.inl (19, 19 + 4 * i))), .inr (.inr (.inl (20, 20 + 4 * i)))]) (m' := (f, l)) rfl rfl (fl_oks_ok ⟨(t2_ka0 (by omega)), True.intro⟩) rfl ?_
    refine fl_Tq.gfV (k := 2) (v := f (19 + 4 * i) 2) rfl (fl_oks_ok ⟨(t2_kt0 (by omega)), (t2_ka0 (by omega)), True.intro⟩) rfl rfl ?_
    refine fl_Tq.cI (c := (1 : Int32)) rfl (by decide +kernel) (fl_oks_ok ⟨True.intro, (t2_ka0 (by omega)), True.intro⟩) ?_
    refine fl_Tq.stp (pc' := 20) (lv' := [some (.inr (.inr (.inl (19, 19 + 4 * i)))), some (.inl x), none]) (st' := [.inl ((f (19 + 4 * i) 2) - (1 : Int32)), .inr (.inr (.inl (20, 20 + 4 * i)))]) (m' := (f, l)) rfl rfl (fl_oks_ok ⟨True.intro, True.intro, (t2_ka0 (by omega)), True.intro⟩) rfl ?_
    refine fl_Tq.ldV (p := 20 + 4 * i) (τ := 20) (n := 32) (z := (0, 0, 0)) (k := ((f (19 + 4 * i) 2).toInt.toNat) - 1) (v := f (20 + 4 * i) (((f (19 + 4 * i) 2).toInt.toNat) - 1)) rfl (fl_oks_ok ⟨True.intro, (t2_ka0 (by omega)), True.intro⟩) rfl (t2_is (t2_nn ht.1) (by decide +kernel) (by have c2 : (2 : Int32).toInt = 2 := (by decide +kernel); omega)) (by have c2 : (2 : Int32).toInt = 2 := (by decide +kernel); omega) rfl ?_
    refine fl_Tq.stp (pc' := 22) (lv' := [some (.inr (.inr (.inl (19, 19 + 4 * i)))), some (.inl x), some (.inl (f (20 + 4 * i) (((f (19 + 4 * i) 2).toInt.toNat) - 1)))]) (st' := []) (m' := (f, l)) rfl rfl (fl_bo rfl) rfl ?_
    refine fl_Tq.stp (pc' := 23) (lv' := [some (.inr (.inr (.inl (19, 19 + 4 * i)))), some (.inl x), some (.inl (f (20 + 4 * i) (((f (19 + 4 * i) 2).toInt.toNat) - 1)))]) (st' := [.inl (f (20 + 4 * i) (((f (19 + 4 * i) 2).toInt.toNat) - 1))]) (m' := (f, l)) rfl rfl (fl_bo rfl) rfl ?_
    refine fl_Tq.stp (pc' := 24) (lv' := [some (.inr (.inr (.inl (19, 19 + 4 * i)))), some (.inl x), some (.inl (f (20 + 4 * i) (((f (19 + 4 * i) 2).toInt.toNat) - 1)))]) (st' := [.inr (.inr (.inl (19, 19 + 4 * i))), .inl (f (20 + 4 * i) (((f (19 + 4 * i) 2).toInt.toNat) - 1))]) (m' := (f, l)) rfl rfl (fl_bo rfl) rfl ?_
    refine fl_Tq.gfR (d := 1) (p' := 20 + 4 * i) rfl (fl_oks_ok ⟨(t2_kt0 (by omega)), True.intro, True.intro⟩) rfl (by omega) ?_
    refine fl_Tq.stp (pc' := 28) (lv' := [some (.inr (.inr (.inl (19, 19 + 4 * i)))), some (.inl x), some (.inl (f (20 + 4 * i) (((f (19 + 4 * i) 2).toInt.toNat) - 1)))]) (st' := [.inr (.inr (.inl (19, 19 + 4 * i))), .inr (.inr (.inl (20, 20 + 4 * i))), .inl (f (20 + 4 * i) (((f (19 + 4 * i) 2).toInt.toNat) - 1))]) (m' := (f, l)) rfl rfl (fl_oks_ok ⟨(t2_ka0 (by omega)), True.intro, True.intro⟩) rfl ?_
    refine fl_Tq.gfV (k := 2) (v := f (19 + 4 * i) 2) rfl (fl_oks_ok ⟨(t2_kt0 (by omega)), (t2_ka0 (by omega)), True.intro, True.intro⟩) rfl rfl ?_
    refine fl_Tq.cI (c := (2 : Int32)) rfl (by decide +kernel) (fl_oks_ok ⟨True.intro, (t2_ka0 (by omega)), True.intro, True.intro⟩) ?_
    refine fl_Tq.stp (pc' := 33) (lv' := [some (.inr (.inr (.inl (19, 19 + 4 * i)))), some (.inl x), some (.inl (f (20 + 4 * i) (((f (19 + 4 * i) 2).toInt.toNat) - 1)))]) (st' := [.inl ((f (19 + 4 * i) 2) - (2 : Int32)), .inr (.inr (.inl (20, 20 + 4 * i))), .inl (f (20 + 4 * i) (((f (19 + 4 * i) 2).toInt.toNat) - 1))]) (m' := (f, l)) rfl rfl (fl_oks_ok ⟨True.intro, True.intro, (t2_ka0 (by omega)), True.intro, True.intro⟩) rfl ?_
    refine fl_Tq.ldV (p := 20 + 4 * i) (τ := 20) (n := 32) (z := (0, 0, 0)) (k := ((f (19 + 4 * i) 2).toInt.toNat) - 2) (v := f (20 + 4 * i) (((f (19 + 4 * i) 2).toInt.toNat) - 2)) rfl (fl_oks_ok ⟨True.intro, (t2_ka0 (by omega)), True.intro, True.intro⟩) rfl (t2_is (t2_nn ht.1) (by decide +kernel) (by have c2 : (2 : Int32).toInt = 2 := (by decide +kernel); omega)) (by have c2 : (2 : Int32).toInt = 2 := (by decide +kernel); omega) rfl ?_
    have hj41 : fl_Tq (pw_P L xs) 89 42 [some (.inr (.inr (.inl (19, 19 + 4 * i)))), some (.inl x), some (.inl (f (20 + 4 * i) (((f (19 + 4 * i) 2).toInt.toNat) - 1)))] [.inl (c0_goesOn_j34_0 f i x)] (f, l) Q → fl_Tq (pw_P L xs) 89 34 [some (.inr (.inr (.inl (19, 19 + 4 * i)))), some (.inl x), some (.inl (f (20 + 4 * i) (((f (19 + 4 * i) 2).toInt.toNat) - 1)))] [.inl (f (20 + 4 * i) (((f (19 + 4 * i) 2).toInt.toNat) - 2)), .inl (f (20 + 4 * i) (((f (19 + 4 * i) 2).toInt.toNat) - 1))] (f, l) Q := by
      intro hJ
      by_cases h2 : (f (20 + 4 * i) (((f (19 + 4 * i) 2).toInt.toNat) - 2)).toInt < (f (20 + 4 * i) (((f (19 + 4 * i) 2).toInt.toNat) - 1)).toInt
      · refine fl_Tq.jf rfl (fl_bo rfl) (c2_le_f h2) rfl ?_
        refine fl_Tq.cI (c := (1 : Int32)) rfl (by decide +kernel) (fl_bo rfl) ?_
        refine fl_Tq.stp (pc' := 42) (lv' := [some (.inr (.inr (.inl (19, 19 + 4 * i)))), some (.inl x), some (.inl (f (20 + 4 * i) (((f (19 + 4 * i) 2).toInt.toNat) - 1)))]) (st' := [.inl (1 : Int32)]) (m' := (f, l)) rfl rfl (fl_bo rfl) rfl ?_
        have e0 : (c0_goesOn_j34_0 f i x) = (1 : Int32) := by simp only [c0_goesOn_j34_0, if_pos h2]
        rw [e0] at hJ
        exact hJ
      · refine fl_Tq.jt rfl (fl_bo rfl) (c2_le_t h2) rfl ?_
        refine fl_Tq.cI (c := (0 : Int32)) rfl (by decide +kernel) (fl_bo rfl) ?_
        have e0 : (c0_goesOn_j34_0 f i x) = (0 : Int32) := by simp only [c0_goesOn_j34_0, if_neg h2]
        rw [e0] at hJ
        exact hJ
    refine hj41 ?_
    show fl_Tq _ 89 42 [some (.inr (.inr (.inl (19, 19 + 4 * i)))), some (.inl x), some (.inl (f (20 + 4 * i) (((f (19 + 4 * i) 2).toInt.toNat) - 1)))] [.inl (c0_goesOn_j34_0 f i x)] (f, l) _
    refine fl_Tq.stp (pc' := 43) (lv' := [some (.inr (.inr (.inl (19, 19 + 4 * i)))), some (.inl x), some (.inl (f (20 + 4 * i) (((f (19 + 4 * i) 2).toInt.toNat) - 1)))]) (st' := [.inl x, .inl (c0_goesOn_j34_0 f i x)]) (m' := (f, l)) rfl rfl (fl_bo rfl) rfl ?_
    refine fl_Tq.stp (pc' := 44) (lv' := [some (.inr (.inr (.inl (19, 19 + 4 * i)))), some (.inl x), some (.inl (f (20 + 4 * i) (((f (19 + 4 * i) 2).toInt.toNat) - 1)))]) (st' := [.inl (f (20 + 4 * i) (((f (19 + 4 * i) 2).toInt.toNat) - 1)), .inl x, .inl (c0_goesOn_j34_0 f i x)]) (m' := (f, l)) rfl rfl (fl_bo rfl) rfl ?_
    have hj42 : fl_Tq (pw_P L xs) 89 52 [some (.inr (.inr (.inl (19, 19 + 4 * i)))), some (.inl x), some (.inl (f (20 + 4 * i) (((f (19 + 4 * i) 2).toInt.toNat) - 1)))] [.inl (c0_goesOn_j44_0 f i x), .inl (c0_goesOn_j34_0 f i x)] (f, l) Q → fl_Tq (pw_P L xs) 89 44 [some (.inr (.inr (.inl (19, 19 + 4 * i)))), some (.inl x), some (.inl (f (20 + 4 * i) (((f (19 + 4 * i) 2).toInt.toNat) - 1)))] [.inl (f (20 + 4 * i) (((f (19 + 4 * i) 2).toInt.toNat) - 1)), .inl x, .inl (c0_goesOn_j34_0 f i x)] (f, l) Q := by
      intro hJ
      by_cases h3 : (f (20 + 4 * i) (((f (19 + 4 * i) 2).toInt.toNat) - 1)).toInt < x.toInt
      · refine fl_Tq.jf rfl (fl_bo rfl) (c2_le_f h3) rfl ?_
        refine fl_Tq.cI (c := (1 : Int32)) rfl (by decide +kernel) (fl_bo rfl) ?_
        refine fl_Tq.stp (pc' := 52) (lv' := [some (.inr (.inr (.inl (19, 19 + 4 * i)))), some (.inl x), some (.inl (f (20 + 4 * i) (((f (19 + 4 * i) 2).toInt.toNat) - 1)))]) (st' := [.inl (1 : Int32), .inl (c0_goesOn_j34_0 f i x)]) (m' := (f, l)) rfl rfl (fl_bo rfl) rfl ?_
        have e0 : (c0_goesOn_j44_0 f i x) = (1 : Int32) := by simp only [c0_goesOn_j44_0, if_pos h3]
        rw [e0] at hJ
        exact hJ
      · refine fl_Tq.jt rfl (fl_bo rfl) (c2_le_t h3) rfl ?_
        refine fl_Tq.cI (c := (0 : Int32)) rfl (by decide +kernel) (fl_bo rfl) ?_
        have e0 : (c0_goesOn_j44_0 f i x) = (0 : Int32) := by simp only [c0_goesOn_j44_0, if_neg h3]
        rw [e0] at hJ
        exact hJ
    refine hj42 ?_
    show fl_Tq _ 89 52 [some (.inr (.inr (.inl (19, 19 + 4 * i)))), some (.inl x), some (.inl (f (20 + 4 * i) (((f (19 + 4 * i) 2).toInt.toNat) - 1)))] [.inl (c0_goesOn_j44_0 f i x), .inl (c0_goesOn_j34_0 f i x)] (f, l) _
    by_cases h4 : (c0_goesOn_j34_0 f i x).toInt = (c0_goesOn_j44_0 f i x).toInt
    · refine fl_Tq.jf rfl (fl_bo rfl) (c2_ne_f h4) rfl ?_
      refine fl_Tq.cI (c := (1 : Int32)) rfl (by decide +kernel) (fl_bo rfl) ?_
      refine fl_Tq.stp (pc' := 60) (lv' := [some (.inr (.inr (.inl (19, 19 + 4 * i)))), some (.inl x), some (.inl (f (20 + 4 * i) (((f (19 + 4 * i) 2).toInt.toNat) - 1)))]) (st' := [.inl (1 : Int32)]) (m' := (f, l)) rfl rfl (fl_bo rfl) rfl ?_
      refine fl_Tq.ret rfl rfl rfl ?_
      unfold c0_goesOn_v at k
      simp only [if_neg h1, if_pos h4] at k
      exact k
    · refine fl_Tq.jt rfl (fl_bo rfl) (c2_ne_t h4) rfl ?_
      refine fl_Tq.cI (c := (0 : Int32)) rfl (by decide +kernel) (fl_bo rfl) ?_
      refine fl_Tq.ret rfl rfl rfl ?_
      unfold c0_goesOn_v at k
      simp only [if_neg h1, if_neg h4] at k
      exact k
noncomputable def c0_way_j17_0 (f : t2_F) (i : Nat) (x : Int32) : Int32 := if ((f (20 + 4 * i) (x.toInt.toNat + 1)) - (f (20 + 4 * i) x.toInt.toNat)).toInt < 0 then -((f (20 + 4 * i) (x.toInt.toNat + 1)) - (f (20 + 4 * i) x.toInt.toNat)) else (f (20 + 4 * i) (x.toInt.toNat + 1)) - (f (20 + 4 * i) x.toInt.toNat)
noncomputable def c0_way_v (f : t2_F) (i : Nat) (x : Int32) : Int32 := c0_way_j17_0 f i x
theorem c0_way_q {L : Nat} {xs : Nat → Int32} {f : t2_F} {l : t2_L} {Q : Option fl_V → fl_M → Prop} {i : Nat} {x : Int32} (hi : i < 16) (hx : 0 ≤ x.toInt ∧ x.toInt + 1 < 32) (k : Q (some (.inl (c0_way_v f i x))) (f, l)) : fl_Tq (pw_P L xs) 92 0 (fl_args (am_mxl (pw_P L xs) 92) [.inr (.inr (.inl (19, 19 + 4 * i))), .inl x]) [] (f, l) Q := by
  refine fl_Tq.stp (pc' := 1) (lv' := [some (.inr (.inr (.inl (19, 19 + 4 * i)))), some (.inl x), none]) (st' := [.inr (.inr (.inl (19, 19 + 4 * i)))]) (m' := (f, l)) rfl rfl (fl_bo rfl) rfl ?_
  refine fl_Tq.gfR (d := 1) (p' := 20 + 4 * i) rfl (fl_oks_ok ⟨(t2_kt0 (by omega)), True.intro⟩) rfl (by omega) ?_
  refine fl_Tq.stp (pc' := 5) (lv' := [some (.inr (.inr (.inl (19, 19 + 4 * i)))), some (.inl x), none]) (st' := [.inl x, .inr (.inr (.inl (20, 20 + 4 * i)))]) (m' := (f, l)) rfl rfl (fl_oks_ok ⟨(t2_ka0 (by omega)), True.intro⟩) rfl ?_
  refine fl_Tq.cI (c := (1 : Int32)) rfl (by decide +kernel) (fl_oks_ok ⟨True.intro, (t2_ka0 (by omega)), True.intro⟩) ?_
  refine fl_Tq.stp (pc' := 7) (lv' := [some (.inr (.inr (.inl (19, 19 + 4 * i)))), some (.inl x), none]) (st' := [.inl (x + (1 : Int32)), .inr (.inr (.inl (20, 20 + 4 * i)))]) (m' := (f, l)) rfl rfl (fl_oks_ok ⟨True.intro, True.intro, (t2_ka0 (by omega)), True.intro⟩) rfl ?_
  refine fl_Tq.ldV (p := 20 + 4 * i) (τ := 20) (n := 32) (z := (0, 0, 0)) (k := x.toInt.toNat + 1) (v := f (20 + 4 * i) (x.toInt.toNat + 1)) rfl (fl_oks_ok ⟨True.intro, (t2_ka0 (by omega)), True.intro⟩) rfl (t2_ia (t2_nn hx.1) (by decide +kernel) (by omega)) (by omega) rfl ?_
  refine fl_Tq.stp (pc' := 9) (lv' := [some (.inr (.inr (.inl (19, 19 + 4 * i)))), some (.inl x), none]) (st' := [.inr (.inr (.inl (19, 19 + 4 * i))), .inl (f (20 + 4 * i) (x.toInt.toNat + 1))]) (m' := (f, l)) rfl rfl (fl_bo rfl) rfl ?_
  refine fl_Tq.gfR (d := 1) (p' := 20 + 4 * i) rfl (fl_oks_ok ⟨(t2_kt0 (by omega)), True.intro, True.intro⟩) rfl (by omega) ?_
  refine fl_Tq.stp (pc' := 13) (lv' := [some (.inr (.inr (.inl (19, 19 + 4 * i)))), some (.inl x), none]) (st' := [.inl x, .inr (.inr (.inl (20, 20 + 4 * i))), .inl (f (20 + 4 * i) (x.toInt.toNat + 1))]) (m' := (f, l)) rfl rfl (fl_oks_ok ⟨(t2_ka0 (by omega)), True.intro, True.intro⟩) rfl ?_
  refine fl_Tq.ldV (p := 20 + 4 * i) (τ := 20) (n := 32) (z := (0, 0, 0)) (k := x.toInt.toNat) (v := f (20 + 4 * i) x.toInt.toNat) rfl (fl_oks_ok ⟨True.intro, (t2_ka0 (by omega)), True.intro, True.intro⟩) rfl (t2_nn hx.1) (by omega) rfl ?_
  refine fl_Tq.stp (pc' := 15) (lv' := [some (.inr (.inr (.inl (19, 19 + 4 * i)))), some (.inl x), none]) (st' := [.inl ((f (20 + 4 * i) (x.toInt.toNat + 1)) - (f (20 + 4 * i) x.toInt.toNat))]) (m' := (f, l)) rfl rfl (fl_bo rfl) rfl ?_
  refine fl_Tq.stp (pc' := 16) (lv' := [some (.inr (.inr (.inl (19, 19 + 4 * i)))), some (.inl x), some (.inl ((f (20 + 4 * i) (x.toInt.toNat + 1)) - (f (20 + 4 * i) x.toInt.toNat)))]) (st' := []) (m' := (f, l)) rfl rfl (fl_bo rfl) rfl ?_
  refine fl_Tq.stp (pc' := 17) (lv' := [some (.inr (.inr (.inl (19, 19 + 4 * i)))), some (.inl x), some (.inl ((f (20 + 4 * i) (x.toInt.toNat + 1)) - (f (20 + 4 * i) x.toInt.toNat)))]) (st' := [.inl ((f (20 + 4 * i) (x.toInt.toNat + 1)) - (f (20 + 4 * i) x.toInt.toNat))]) (m' := (f, l)) rfl rfl (fl_bo rfl) rfl ?_
  have hj43 : fl_Tq (pw_P L xs) 92 26 [some (.inr (.inr (.inl (19, 19 + 4 * i)))), some (.inl x), some (.inl ((f (20 + 4 * i) (x.toInt.toNat + 1)) - (f (20 + 4 * i) x.toInt.toNat)))] [.inl (c0_way_j17_0 f i x)] (f, l) Q → fl_Tq (pw_P L xs) 92 17 [some (.inr (.inr (.inl (19, 19 + 4 * i)))), some (.inl x), some (.inl ((f (20 + 4 * i) (x.toInt.toNat + 1)) - (f (20 + 4 * i) x.toInt.toNat)))] [.inl ((f (20 + 4 * i) (x.toInt.toNat + 1)) - (f (20 + 4 * i) x.toInt.toNat))] (f, l) Q := by
    intro hJ
    by_cases h1 : ((f (20 + 4 * i) (x.toInt.toNat + 1)) - (f (20 + 4 * i) x.toInt.toNat)).toInt < 0
    · refine fl_Tq.zf rfl (fl_bo rfl) (c1_ge_f h1) rfl ?_
      refine fl_Tq.stp (pc' := 21) (lv' := [some (.inr (.inr (.inl (19, 19 + 4 * i)))), some (.inl x), some (.inl ((f (20 + 4 * i) (x.toInt.toNat + 1)) - (f (20 + 4 * i) x.toInt.toNat)))]) (st' := [.inl ((f (20 + 4 * i) (x.toInt.toNat + 1)) - (f (20 + 4 * i) x.toInt.toNat))]) (m' := (f, l)) rfl rfl (fl_bo rfl) rfl ?_
      refine fl_Tq.stp (pc' := 22) (lv' := [some (.inr (.inr (.inl (19, 19 + 4 * i)))), some (.inl x), some (.inl ((f (20 + 4 * i) (x.toInt.toNat + 1)) - (f (20 + 4 * i) x.toInt.toNat)))]) (st' := [.inl (-((f (20 + 4 * i) (x.toInt.toNat + 1)) - (f (20 + 4 * i) x.toInt.toNat)))]) (m' := (f, l)) rfl rfl (fl_bo rfl) rfl ?_
      refine fl_Tq.stp (pc' := 26) (lv' := [some (.inr (.inr (.inl (19, 19 + 4 * i)))), some (.inl x), some (.inl ((f (20 + 4 * i) (x.toInt.toNat + 1)) - (f (20 + 4 * i) x.toInt.toNat)))]) (st' := [.inl (-((f (20 + 4 * i) (x.toInt.toNat + 1)) - (f (20 + 4 * i) x.toInt.toNat)))]) (m' := (f, l)) rfl rfl (fl_bo rfl) rfl ?_
      have e0 : (c0_way_j17_0 f i x) = -((f (20 + 4 * i) (x.toInt.toNat + 1)) - (f (20 + 4 * i) x.toInt.toNat)) := by simp only [c0_way_j17_0, if_pos h1]
      rw [e0] at hJ
      exact hJ
    · refine fl_Tq.zt rfl (fl_bo rfl) (c1_ge_t h1) rfl ?_
      refine fl_Tq.stp (pc' := 26) (lv' := [some (.inr (.inr (.inl (19, 19 + 4 * i)))), some (.inl x), some (.inl ((f (20 + 4 * i) (x.toInt.toNat + 1)) - (f (20 + 4 * i) x.toInt.toNat)))]) (st' := [.inl ((f (20 + 4 * i) (x.toInt.toNat + 1)) - (f (20 + 4 * i) x.toInt.toNat))]) (m' := (f, l)) rfl rfl (fl_bo rfl) rfl ?_
      have e0 : (c0_way_j17_0 f i x) = (f (20 + 4 * i) (x.toInt.toNat + 1)) - (f (20 + 4 * i) x.toInt.toNat) := by simp only [c0_way_j17_0, if_neg h1]
      rw [e0] at hJ
      exact hJ
  refine hj43 ?_
  show fl_Tq _ 92 26 [some (.inr (.inr (.inl (19, 19 + 4 * i)))), some (.inl x), some (.inl ((f (20 + 4 * i) (x.toInt.toNat + 1)) - (f (20 + 4 * i) x.toInt.toNat)))] [.inl (c0_way_j17_0 f i x)] (f, l) _
  exact fl_Tq.ret rfl rfl rfl k
noncomputable def c0_greatestAbove_a8 (f : t2_F) (x y : Int32) : Nat → Int32 × Int32
  | 0 => ((-1 : Int32), x)
  | k8 + 1 => (if ((y >>> ((Int32.ofNat k8) &&& 31)) &&& (1 : Int32)).toInt = 0 then (if ((c0_greatestAbove_a8 f x y k8).2).toInt < (f (18 + 4 * k8) 3).toInt then Int32.ofNat k8 else (c0_greatestAbove_a8 f x y k8).1) else (c0_greatestAbove_a8 f x y k8).1, if ((y >>> ((Int32.ofNat k8) &&& 31)) &&& (1 : Int32)).toInt = 0 then (if ((c0_greatestAbove_a8 f x y k8).2).toInt < (f (18 + 4 * k8) 3).toInt then f (18 + 4 * k8) 3 else (c0_greatestAbove_a8 f x y k8).2) else (c0_greatestAbove_a8 f x y k8).2)
noncomputable def c0_greatestAbove_v (f : t2_F) (x y : Int32) : Int32 := (c0_greatestAbove_a8 f x y ((f 1 5).toInt.toNat)).1
theorem c0_greatestAbove_q {L : Nat} {xs : Nat → Int32} {f : t2_F} {l : t2_L} {Q : Option fl_V → fl_M → Prop} {x y : Int32} (hc : 0 ≤ (f 1 5).toInt ∧ (f 1 5).toInt ≤ 16) (k : Q (some (.inl (c0_greatestAbove_v f x y))) (f, l)) : fl_Tq (pw_P L xs) 64 0 (fl_args (am_mxl (pw_P L xs) 64) [.inr (.inr (.inl (1, 1))), .inl x, .inl y]) [] (f, l) Q := by
  refine fl_Tq.cI (c := (-1 : Int32)) rfl (by decide +kernel) (fl_bo rfl) ?_
  refine fl_Tq.stp (pc' := 2) (lv' := [some (.inr (.inr (.inl (1, 1)))), some (.inl x), some (.inl y), some (.inl (-1 : Int32)), none, none]) (st' := []) (m' := (f, l)) rfl rfl (fl_bo rfl) rfl ?_
  refine fl_Tq.stp (pc' := 3) (lv' := [some (.inr (.inr (.inl (1, 1)))), some (.inl x), some (.inl y), some (.inl (-1 : Int32)), none, none]) (st' := [.inl x]) (m' := (f, l)) rfl rfl (fl_bo rfl) rfl ?_
  refine fl_Tq.stp (pc' := 5) (lv' := [some (.inr (.inr (.inl (1, 1)))), some (.inl x), some (.inl y), some (.inl (-1 : Int32)), some (.inl x), none]) (st' := []) (m' := (f, l)) rfl rfl (fl_bo rfl) rfl ?_
  refine fl_Tq.cI (c := (0 : Int32)) rfl (by decide +kernel) (fl_bo rfl) ?_
  refine fl_Tq.stp (pc' := 8) (lv' := [some (.inr (.inr (.inl (1, 1)))), some (.inl x), some (.inl y), some (.inl (-1 : Int32)), some (.inl x), some (.inl (0 : Int32))]) (st' := []) (m' := (f, l)) rfl rfl (fl_bo rfl) rfl ?_
  have hs8 : ∀ k8 : Nat, k8 < (f 1 5).toInt.toNat → fl_Tq (pw_P L xs) 64 8 [some (.inr (.inr (.inl (1, 1)))), some (.inl x), some (.inl y), some (.inl ((c0_greatestAbove_a8 f x y (k8 + 1)).1)), some (.inl ((c0_greatestAbove_a8 f x y (k8 + 1)).2)), some (.inl (Int32.ofNat (k8 + 1)))] [] (f, l) Q → fl_Tq (pw_P L xs) 64 8 [some (.inr (.inr (.inl (1, 1)))), some (.inl x), some (.inl y), some (.inl ((c0_greatestAbove_a8 f x y k8).1)), some (.inl ((c0_greatestAbove_a8 f x y k8).2)), some (.inl (Int32.ofNat k8))] [] (f, l) Q := by
    intro k8 hk8 hS
    refine fl_Tq.stp (pc' := 10) (lv' := [some (.inr (.inr (.inl (1, 1)))), some (.inl x), some (.inl y), some (.inl ((c0_greatestAbove_a8 f x y k8).1)), some (.inl ((c0_greatestAbove_a8 f x y k8).2)), some (.inl (Int32.ofNat k8))]) (st' := [.inl (Int32.ofNat k8)]) (m' := (f, l)) rfl rfl (fl_bo rfl) rfl ?_
    refine fl_Tq.stp (pc' := 11) (lv' := [some (.inr (.inr (.inl (1, 1)))), some (.inl x), some (.inl y), some (.inl ((c0_greatestAbove_a8 f x y k8).1)), some (.inl ((c0_greatestAbove_a8 f x y k8).2)), some (.inl (Int32.ofNat k8))]) (st' := [.inr (.inr (.inl (1, 1))), .inl (Int32.ofNat k8)]) (m' := (f, l)) rfl rfl (fl_bo rfl) rfl ?_
    refine fl_Tq.gfV (k := 5) (v := f 1 5) rfl (fl_bo rfl) rfl rfl ?_
    refine fl_Tq.jf rfl (fl_bo rfl) (c2_ge_f (t2_lk hk8 (t2_nn hc.1))) rfl ?_
    refine fl_Tq.stp (pc' := 18) (lv' := [some (.inr (.inr (.inl (1, 1)))), some (.inl x), some (.inl y), some (.inl ((c0_greatestAbove_a8 f x y k8).1)), some (.inl ((c0_greatestAbove_a8 f x y k8).2)), some (.inl (Int32.ofNat k8))]) (st' := [.inl y]) (m' := (f, l)) rfl rfl (fl_bo rfl) rfl ?_
    refine fl_Tq.stp (pc' := 20) (lv' := [some (.inr (.inr (.inl (1, 1)))), some (.inl x), some (.inl y), some (.inl ((c0_greatestAbove_a8 f x y k8).1)), some (.inl ((c0_greatestAbove_a8 f x y k8).2)), some (.inl (Int32.ofNat k8))]) (st' := [.inl (Int32.ofNat k8), .inl y]) (m' := (f, l)) rfl rfl (fl_bo rfl) rfl ?_
    refine fl_Tq.stp (pc' := 21) (lv' := [some (.inr (.inr (.inl (1, 1)))), some (.inl x), some (.inl y), some (.inl ((c0_greatestAbove_a8 f x y k8).1)), some (.inl ((c0_greatestAbove_a8 f x y k8).2)), some (.inl (Int32.ofNat k8))]) (st' := [.inl (y >>> ((Int32.ofNat k8) &&& 31))]) (m' := (f, l)) rfl rfl (fl_bo rfl) rfl ?_
    refine fl_Tq.cI (c := (1 : Int32)) rfl (by decide +kernel) (fl_bo rfl) ?_
    refine fl_Tq.stp (pc' := 23) (lv' := [some (.inr (.inr (.inl (1, 1)))), some (.inl x), some (.inl y), some (.inl ((c0_greatestAbove_a8 f x y k8).1)), some (.inl ((c0_greatestAbove_a8 f x y k8).2)), some (.inl (Int32.ofNat k8))]) (st' := [.inl ((y >>> ((Int32.ofNat k8) &&& 31)) &&& (1 : Int32))]) (m' := (f, l)) rfl rfl (fl_bo rfl) rfl ?_
    have hj44 : fl_Tq (pw_P L xs) 64 56 [some (.inr (.inr (.inl (1, 1)))), some (.inl x), some (.inl y), some (.inl (if ((y >>> ((Int32.ofNat k8) &&& 31)) &&& (1 : Int32)).toInt = 0 then (if ((c0_greatestAbove_a8 f x y k8).2).toInt < (f (18 + 4 * k8) 3).toInt then Int32.ofNat k8 else (c0_greatestAbove_a8 f x y k8).1) else (c0_greatestAbove_a8 f x y k8).1)), some (.inl (if ((y >>> ((Int32.ofNat k8) &&& 31)) &&& (1 : Int32)).toInt = 0 then (if ((c0_greatestAbove_a8 f x y k8).2).toInt < (f (18 + 4 * k8) 3).toInt then f (18 + 4 * k8) 3 else (c0_greatestAbove_a8 f x y k8).2) else (c0_greatestAbove_a8 f x y k8).2)), some (.inl (Int32.ofNat k8))] [] (f, l) Q → fl_Tq (pw_P L xs) 64 23 [some (.inr (.inr (.inl (1, 1)))), some (.inl x), some (.inl y), some (.inl ((c0_greatestAbove_a8 f x y k8).1)), some (.inl ((c0_greatestAbove_a8 f x y k8).2)), some (.inl (Int32.ofNat k8))] [.inl ((y >>> ((Int32.ofNat k8) &&& 31)) &&& (1 : Int32))] (f, l) Q := by
      intro hJ
      by_cases h1 : ((y >>> ((Int32.ofNat k8) &&& 31)) &&& (1 : Int32)).toInt = 0
      · refine fl_Tq.zf rfl (fl_bo rfl) (c1_ne_f h1) rfl ?_
        refine fl_Tq.stp (pc' := 27) (lv' := [some (.inr (.inr (.inl (1, 1)))), some (.inl x), some (.inl y), some (.inl ((c0_greatestAbove_a8 f x y k8).1)), some (.inl ((c0_greatestAbove_a8 f x y k8).2)), some (.inl (Int32.ofNat k8))]) (st' := [.inr (.inr (.inl (1, 1)))]) (m' := (f, l)) rfl rfl (fl_bo rfl) rfl ?_
        refine fl_Tq.stp (pc' := 30) (lv' := [some (.inr (.inr (.inl (1, 1)))), some (.inl x), some (.inl y), some (.inl ((c0_greatestAbove_a8 f x y k8).1)), some (.inl ((c0_greatestAbove_a8 f x y k8).2)), some (.inl (Int32.ofNat k8))]) (st' := [.inr (.inr (.inl (2, 2)))]) (m' := (f, l)) rfl rfl (fl_bo rfl) rfl ?_
        refine fl_Tq.stp (pc' := 32) (lv' := [some (.inr (.inr (.inl (1, 1)))), some (.inl x), some (.inl y), some (.inl ((c0_greatestAbove_a8 f x y k8).1)), some (.inl ((c0_greatestAbove_a8 f x y k8).2)), some (.inl (Int32.ofNat k8))]) (st' := [.inl (Int32.ofNat k8), .inr (.inr (.inl (2, 2)))]) (m' := (f, l)) rfl rfl (fl_bo rfl) rfl ?_
        refine fl_Tq.qld (p := 2) (τ := 2) (n := 16) (t := 18) (b := 16) (d := 3) (k := k8) rfl (fl_bo rfl) rfl (at_ofN (by omega)) (by omega) ?_
        show fl_Tq _ 64 33 [some (.inr (.inr (.inl (1, 1)))), some (.inl x), some (.inl y), some (.inl ((c0_greatestAbove_a8 f x y k8).1)), some (.inl ((c0_greatestAbove_a8 f x y k8).2)), some (.inl (Int32.ofNat k8))] [.inr (.inr (.inl (18, 18 + 4 * k8)))] (f, l) _
        refine fl_Tq.gfV (k := 3) (v := f (18 + 4 * k8) 3) rfl (fl_oks_ok ⟨(t2_kc0 (by omega)), True.intro⟩) rfl rfl ?_
        refine fl_Tq.stp (pc' := 38) (lv' := [some (.inr (.inr (.inl (1, 1)))), some (.inl x), some (.inl y), some (.inl ((c0_greatestAbove_a8 f x y k8).1)), some (.inl ((c0_greatestAbove_a8 f x y k8).2)), some (.inl (Int32.ofNat k8))]) (st' := [.inl ((c0_greatestAbove_a8 f x y k8).2), .inl (f (18 + 4 * k8) 3)]) (m' := (f, l)) rfl rfl (fl_bo rfl) rfl ?_
        by_cases h2 : ((c0_greatestAbove_a8 f x y k8).2).toInt < (f (18 + 4 * k8) 3).toInt
        · refine fl_Tq.jf rfl (fl_bo rfl) (c2_le_f h2) rfl ?_
          refine fl_Tq.stp (pc' := 43) (lv' := [some (.inr (.inr (.inl (1, 1)))), some (.inl x), some (.inl y), some (.inl ((c0_greatestAbove_a8 f x y k8).1)), some (.inl ((c0_greatestAbove_a8 f x y k8).2)), some (.inl (Int32.ofNat k8))]) (st' := [.inl (Int32.ofNat k8)]) (m' := (f, l)) rfl rfl (fl_bo rfl) rfl ?_
          refine fl_Tq.stp (pc' := 44) (lv' := [some (.inr (.inr (.inl (1, 1)))), some (.inl x), some (.inl y), some (.inl (Int32.ofNat k8)), some (.inl ((c0_greatestAbove_a8 f x y k8).2)), some (.inl (Int32.ofNat k8))]) (st' := []) (m' := (f, l)) rfl rfl (fl_bo rfl) rfl ?_
          refine fl_Tq.stp (pc' := 45) (lv' := [some (.inr (.inr (.inl (1, 1)))), some (.inl x), some (.inl y), some (.inl (Int32.ofNat k8)), some (.inl ((c0_greatestAbove_a8 f x y k8).2)), some (.inl (Int32.ofNat k8))]) (st' := [.inr (.inr (.inl (1, 1)))]) (m' := (f, l)) rfl rfl (fl_bo rfl) rfl ?_
          refine fl_Tq.stp (pc' := 48) (lv' := [some (.inr (.inr (.inl (1, 1)))), some (.inl x), some (.inl y), some (.inl (Int32.ofNat k8)), some (.inl ((c0_greatestAbove_a8 f x y k8).2)), some (.inl (Int32.ofNat k8))]) (st' := [.inr (.inr (.inl (2, 2)))]) (m' := (f, l)) rfl rfl (fl_bo rfl) rfl ?_
          refine fl_Tq.stp (pc' := 50) (lv' := [some (.inr (.inr (.inl (1, 1)))), some (.inl x), some (.inl y), some (.inl (Int32.ofNat k8)), some (.inl ((c0_greatestAbove_a8 f x y k8).2)), some (.inl (Int32.ofNat k8))]) (st' := [.inl (Int32.ofNat k8), .inr (.inr (.inl (2, 2)))]) (m' := (f, l)) rfl rfl (fl_bo rfl) rfl ?_
          refine fl_Tq.qld (p := 2) (τ := 2) (n := 16) (t := 18) (b := 16) (d := 3) (k := k8) rfl (fl_bo rfl) rfl (at_ofN (by omega)) (by omega) ?_
          show fl_Tq _ 64 51 [some (.inr (.inr (.inl (1, 1)))), some (.inl x), some (.inl y), some (.inl (Int32.ofNat k8)), some (.inl ((c0_greatestAbove_a8 f x y k8).2)), some (.inl (Int32.ofNat k8))] [.inr (.inr (.inl (18, 18 + 4 * k8)))] (f, l) _
          refine fl_Tq.gfV (k := 3) (v := f (18 + 4 * k8) 3) rfl (fl_oks_ok ⟨(t2_kc0 (by omega)), True.intro⟩) rfl rfl ?_
          refine fl_Tq.stp (pc' := 56) (lv' := [some (.inr (.inr (.inl (1, 1)))), some (.inl x), some (.inl y), some (.inl (Int32.ofNat k8)), some (.inl (f (18 + 4 * k8) 3)), some (.inl (Int32.ofNat k8))]) (st' := []) (m' := (f, l)) rfl rfl (fl_bo rfl) rfl ?_
          have e0 : (if ((y >>> ((Int32.ofNat k8) &&& 31)) &&& (1 : Int32)).toInt = 0 then (if ((c0_greatestAbove_a8 f x y k8).2).toInt < (f (18 + 4 * k8) 3).toInt then Int32.ofNat k8 else (c0_greatestAbove_a8 f x y k8).1) else (c0_greatestAbove_a8 f x y k8).1) = Int32.ofNat k8 := by simp only [if_pos h1, if_pos h2]
          have e1 : (if ((y >>> ((Int32.ofNat k8) &&& 31)) &&& (1 : Int32)).toInt = 0 then (if ((c0_greatestAbove_a8 f x y k8).2).toInt < (f (18 + 4 * k8) 3).toInt then f (18 + 4 * k8) 3 else (c0_greatestAbove_a8 f x y k8).2) else (c0_greatestAbove_a8 f x y k8).2) = f (18 + 4 * k8) 3 := by simp only [if_pos h1, if_pos h2]
          rw [e0, e1] at hJ
          exact hJ
        · refine fl_Tq.jt rfl (fl_bo rfl) (c2_le_t h2) rfl ?_
          have e0 : (if ((y >>> ((Int32.ofNat k8) &&& 31)) &&& (1 : Int32)).toInt = 0 then (if ((c0_greatestAbove_a8 f x y k8).2).toInt < (f (18 + 4 * k8) 3).toInt then Int32.ofNat k8 else (c0_greatestAbove_a8 f x y k8).1) else (c0_greatestAbove_a8 f x y k8).1) = (c0_greatestAbove_a8 f x y k8).1 := by simp only [if_pos h1, if_neg h2]
          have e1 : (if ((y >>> ((Int32.ofNat k8) &&& 31)) &&& (1 : Int32)).toInt = 0 then (if ((c0_greatestAbove_a8 f x y k8).2).toInt < (f (18 + 4 * k8) 3).toInt then f (18 + 4 * k8) 3 else (c0_greatestAbove_a8 f x y k8).2) else (c0_greatestAbove_a8 f x y k8).2) = (c0_greatestAbove_a8 f x y k8).2 := by simp only [if_pos h1, if_neg h2]
          rw [e0, e1] at hJ
          exact hJ
      · refine fl_Tq.zt rfl (fl_bo rfl) (c1_ne_t h1) rfl ?_
        have e0 : (if ((y >>> ((Int32.ofNat k8) &&& 31)) &&& (1 : Int32)).toInt = 0 then (if ((c0_greatestAbove_a8 f x y k8).2).toInt < (f (18 + 4 * k8) 3).toInt then Int32.ofNat k8 else (c0_greatestAbove_a8 f x y k8).1) else (c0_greatestAbove_a8 f x y k8).1) = (c0_greatestAbove_a8 f x y k8).1 := by simp only [if_neg h1]
        have e1 : (if ((y >>> ((Int32.ofNat k8) &&& 31)) &&& (1 : Int32)).toInt = 0 then (if ((c0_greatestAbove_a8 f x y k8).2).toInt < (f (18 + 4 * k8) 3).toInt then f (18 + 4 * k8) 3 else (c0_greatestAbove_a8 f x y k8).2) else (c0_greatestAbove_a8 f x y k8).2) = (c0_greatestAbove_a8 f x y k8).2 := by simp only [if_neg h1]
        rw [e0, e1] at hJ
        exact hJ
    refine hj44 ?_
    show fl_Tq _ 64 56 [some (.inr (.inr (.inl (1, 1)))), some (.inl x), some (.inl y), some (.inl (if ((y >>> ((Int32.ofNat k8) &&& 31)) &&& (1 : Int32)).toInt = 0 then (if ((c0_greatestAbove_a8 f x y k8).2).toInt < (f (18 + 4 * k8) 3).toInt then Int32.ofNat k8 else (c0_greatestAbove_a8 f x y k8).1) else (c0_greatestAbove_a8 f x y k8).1)), some (.inl (if ((y >>> ((Int32.ofNat k8) &&& 31)) &&& (1 : Int32)).toInt = 0 then (if ((c0_greatestAbove_a8 f x y k8).2).toInt < (f (18 + 4 * k8) 3).toInt then f (18 + 4 * k8) 3 else (c0_greatestAbove_a8 f x y k8).2) else (c0_greatestAbove_a8 f x y k8).2)), some (.inl (Int32.ofNat k8))] [] (f, l) _
    refine fl_Tq.stp (pc' := 59) (lv' := [some (.inr (.inr (.inl (1, 1)))), some (.inl x), some (.inl y), some (.inl (if ((y >>> ((Int32.ofNat k8) &&& 31)) &&& (1 : Int32)).toInt = 0 then (if ((c0_greatestAbove_a8 f x y k8).2).toInt < (f (18 + 4 * k8) 3).toInt then Int32.ofNat k8 else (c0_greatestAbove_a8 f x y k8).1) else (c0_greatestAbove_a8 f x y k8).1)), some (.inl (if ((y >>> ((Int32.ofNat k8) &&& 31)) &&& (1 : Int32)).toInt = 0 then (if ((c0_greatestAbove_a8 f x y k8).2).toInt < (f (18 + 4 * k8) 3).toInt then f (18 + 4 * k8) 3 else (c0_greatestAbove_a8 f x y k8).2) else (c0_greatestAbove_a8 f x y k8).2)), some (.inl ((Int32.ofNat k8) + (1 : Int32)))]) (st' := []) (m' := (f, l)) rfl rfl (fl_bo rfl) rfl ?_
    refine fl_Tq.stp (pc' := 8) (lv' := [some (.inr (.inr (.inl (1, 1)))), some (.inl x), some (.inl y), some (.inl (if ((y >>> ((Int32.ofNat k8) &&& 31)) &&& (1 : Int32)).toInt = 0 then (if ((c0_greatestAbove_a8 f x y k8).2).toInt < (f (18 + 4 * k8) 3).toInt then Int32.ofNat k8 else (c0_greatestAbove_a8 f x y k8).1) else (c0_greatestAbove_a8 f x y k8).1)), some (.inl (if ((y >>> ((Int32.ofNat k8) &&& 31)) &&& (1 : Int32)).toInt = 0 then (if ((c0_greatestAbove_a8 f x y k8).2).toInt < (f (18 + 4 * k8) 3).toInt then f (18 + 4 * k8) 3 else (c0_greatestAbove_a8 f x y k8).2) else (c0_greatestAbove_a8 f x y k8).2)), some (.inl ((Int32.ofNat k8) + (1 : Int32)))]) (st' := []) (m' := (f, l)) rfl rfl (fl_bo rfl) rfl ?_
    have ea : c0_greatestAbove_a8 f x y (k8 + 1) = (if ((y >>> ((Int32.ofNat k8) &&& 31)) &&& (1 : Int32)).toInt = 0 then (if ((c0_greatestAbove_a8 f x y k8).2).toInt < (f (18 + 4 * k8) 3).toInt then Int32.ofNat k8 else (c0_greatestAbove_a8 f x y k8).1) else (c0_greatestAbove_a8 f x y k8).1, if ((y >>> ((Int32.ofNat k8) &&& 31)) &&& (1 : Int32)).toInt = 0 then (if ((c0_greatestAbove_a8 f x y k8).2).toInt < (f (18 + 4 * k8) 3).toInt then f (18 + 4 * k8) 3 else (c0_greatestAbove_a8 f x y k8).2) else (c0_greatestAbove_a8 f x y k8).2) := by
      show ((if ((y >>> ((Int32.ofNat k8) &&& 31)) &&& (1 : Int32)).toInt = 0 then (if ((c0_greatestAbove_a8 f x y k8).2).toInt < (f (18 + 4 * k8) 3).toInt then Int32.ofNat k8 else (c0_greatestAbove_a8 f x y k8).1) else (c0_greatestAbove_a8 f x y k8).1, if ((y >>> ((Int32.ofNat k8) &&& 31)) &&& (1 : Int32)).toInt = 0 then (if ((c0_greatestAbove_a8 f x y k8).2).toInt < (f (18 + 4 * k8) 3).toInt then f (18 + 4 * k8) 3 else (c0_greatestAbove_a8 f x y k8).2) else (c0_greatestAbove_a8 f x y k8).2)) = _
      rfl
    rw [ea, ← t2_k1] at hS
    exact hS
  refine t2_for (S := fun k8 => fl_Tq (pw_P L xs) 64 8 [some (.inr (.inr (.inl (1, 1)))), some (.inl x), some (.inl y), some (.inl ((c0_greatestAbove_a8 f x y k8).1)), some (.inl ((c0_greatestAbove_a8 f x y k8).2)), some (.inl (Int32.ofNat k8))] [] (f, l) Q) hs8 ?_
  show fl_Tq (pw_P L xs) 64 8 [some (.inr (.inr (.inl (1, 1)))), some (.inl x), some (.inl y), some (.inl ((c0_greatestAbove_a8 f x y ((f 1 5).toInt.toNat)).1)), some (.inl ((c0_greatestAbove_a8 f x y ((f 1 5).toInt.toNat)).2)), some (.inl (Int32.ofNat ((f 1 5).toInt.toNat)))] [] (f, l) _
  refine fl_Tq.stp (pc' := 10) (lv' := [some (.inr (.inr (.inl (1, 1)))), some (.inl x), some (.inl y), some (.inl ((c0_greatestAbove_a8 f x y ((f 1 5).toInt.toNat)).1)), some (.inl ((c0_greatestAbove_a8 f x y ((f 1 5).toInt.toNat)).2)), some (.inl (Int32.ofNat ((f 1 5).toInt.toNat)))]) (st' := [.inl (Int32.ofNat ((f 1 5).toInt.toNat))]) (m' := (f, l)) rfl rfl (fl_bo rfl) rfl ?_
  refine fl_Tq.stp (pc' := 11) (lv' := [some (.inr (.inr (.inl (1, 1)))), some (.inl x), some (.inl y), some (.inl ((c0_greatestAbove_a8 f x y ((f 1 5).toInt.toNat)).1)), some (.inl ((c0_greatestAbove_a8 f x y ((f 1 5).toInt.toNat)).2)), some (.inl (Int32.ofNat ((f 1 5).toInt.toNat)))]) (st' := [.inr (.inr (.inl (1, 1))), .inl (Int32.ofNat ((f 1 5).toInt.toNat))]) (m' := (f, l)) rfl rfl (fl_bo rfl) rfl ?_
  refine fl_Tq.gfV (k := 5) (v := f 1 5) rfl (fl_bo rfl) rfl rfl ?_
  refine fl_Tq.jt rfl (fl_bo rfl) (c2_ge_t (t2_ln (t2_nn hc.1))) rfl ?_
  refine fl_Tq.stp (pc' := 63) (lv' := [some (.inr (.inr (.inl (1, 1)))), some (.inl x), some (.inl y), some (.inl ((c0_greatestAbove_a8 f x y ((f 1 5).toInt.toNat)).1)), some (.inl ((c0_greatestAbove_a8 f x y ((f 1 5).toInt.toNat)).2)), some (.inl (Int32.ofNat ((f 1 5).toInt.toNat)))]) (st' := [.inl ((c0_greatestAbove_a8 f x y ((f 1 5).toInt.toNat)).1)]) (m' := (f, l)) rfl rfl (fl_bo rfl) rfl ?_
  exact fl_Tq.ret rfl rfl rfl k
noncomputable def c2_packAt_a4 (f : t2_F) (x : Int32) : Nat → Int32
  | 0 => (0 : Int32)
  | k4 + 1 => (c2_packAt_a4 f x k4) + (c2_voltsAt_v f k4 x)
noncomputable def c2_packAt_v (f : t2_F) (x : Int32) : Int32 := c2_packAt_a4 f x ((f 181 5).toInt.toNat)
theorem c2_packAt_q {L : Nat} {xs : Nat → Int32} {f : t2_F} {l : t2_L} {Q : Option fl_V → fl_M → Prop} {x : Int32} (hc : 0 ≤ (f 181 5).toInt ∧ (f 181 5).toInt ≤ 16) (k : Q (some (.inl (c2_packAt_v f x))) (f, l)) : fl_Tq (pw_P L xs) 38 0 (fl_args (am_mxl (pw_P L xs) 38) [.inr (.inr (.inl (49, 181))), .inl x]) [] (f, l) Q := by
  refine fl_Tq.cI (c := (0 : Int32)) rfl (by decide +kernel) (fl_bo rfl) ?_
  refine fl_Tq.stp (pc' := 2) (lv' := [some (.inr (.inr (.inl (49, 181)))), some (.inl x), some (.inl (0 : Int32)), none]) (st' := []) (m' := (f, l)) rfl rfl (fl_bo rfl) rfl ?_
  refine fl_Tq.cI (c := (0 : Int32)) rfl (by decide +kernel) (fl_bo rfl) ?_
  refine fl_Tq.stp (pc' := 4) (lv' := [some (.inr (.inr (.inl (49, 181)))), some (.inl x), some (.inl (0 : Int32)), some (.inl (0 : Int32))]) (st' := []) (m' := (f, l)) rfl rfl (fl_bo rfl) rfl ?_
  have hs4 : ∀ k4 : Nat, k4 < (f 181 5).toInt.toNat → fl_Tq (pw_P L xs) 38 4 [some (.inr (.inr (.inl (49, 181)))), some (.inl x), some (.inl (c2_packAt_a4 f x (k4 + 1))), some (.inl (Int32.ofNat (k4 + 1)))] [] (f, l) Q → fl_Tq (pw_P L xs) 38 4 [some (.inr (.inr (.inl (49, 181)))), some (.inl x), some (.inl (c2_packAt_a4 f x k4)), some (.inl (Int32.ofNat k4))] [] (f, l) Q := by
    intro k4 hk4 hS
    refine fl_Tq.stp (pc' := 5) (lv' := [some (.inr (.inr (.inl (49, 181)))), some (.inl x), some (.inl (c2_packAt_a4 f x k4)), some (.inl (Int32.ofNat k4))]) (st' := [.inl (Int32.ofNat k4)]) (m' := (f, l)) rfl rfl (fl_bo rfl) rfl ?_
    refine fl_Tq.stp (pc' := 6) (lv' := [some (.inr (.inr (.inl (49, 181)))), some (.inl x), some (.inl (c2_packAt_a4 f x k4)), some (.inl (Int32.ofNat k4))]) (st' := [.inr (.inr (.inl (49, 181))), .inl (Int32.ofNat k4)]) (m' := (f, l)) rfl rfl (fl_bo rfl) rfl ?_
    refine fl_Tq.gfV (k := 5) (v := f 181 5) rfl (fl_bo rfl) rfl rfl ?_
    refine fl_Tq.jf rfl (fl_bo rfl) (c2_ge_f (t2_lk hk4 (t2_nn hc.1))) rfl ?_
    refine fl_Tq.stp (pc' := 13) (lv' := [some (.inr (.inr (.inl (49, 181)))), some (.inl x), some (.inl (c2_packAt_a4 f x k4)), some (.inl (Int32.ofNat k4))]) (st' := [.inl (c2_packAt_a4 f x k4)]) (m' := (f, l)) rfl rfl (fl_bo rfl) rfl ?_
    refine fl_Tq.stp (pc' := 14) (lv' := [some (.inr (.inr (.inl (49, 181)))), some (.inl x), some (.inl (c2_packAt_a4 f x k4)), some (.inl (Int32.ofNat k4))]) (st' := [.inr (.inr (.inl (49, 181))), .inl (c2_packAt_a4 f x k4)]) (m' := (f, l)) rfl rfl (fl_bo rfl) rfl ?_
    refine fl_Tq.stp (pc' := 17) (lv' := [some (.inr (.inr (.inl (49, 181)))), some (.inl x), some (.inl (c2_packAt_a4 f x k4)), some (.inl (Int32.ofNat k4))]) (st' := [.inr (.inr (.inl (50, 182))), .inl (c2_packAt_a4 f x k4)]) (m' := (f, l)) rfl rfl (fl_bo rfl) rfl ?_
    refine fl_Tq.stp (pc' := 18) (lv' := [some (.inr (.inr (.inl (49, 181)))), some (.inl x), some (.inl (c2_packAt_a4 f x k4)), some (.inl (Int32.ofNat k4))]) (st' := [.inl (Int32.ofNat k4), .inr (.inr (.inl (50, 182))), .inl (c2_packAt_a4 f x k4)]) (m' := (f, l)) rfl rfl (fl_bo rfl) rfl ?_
    refine fl_Tq.qld (p := 182) (τ := 50) (n := 16) (t := 66) (b := 16) (d := 3) (k := k4) rfl (fl_bo rfl) rfl (at_ofN (by omega)) (by omega) ?_
    show fl_Tq _ 38 19 [some (.inr (.inr (.inl (49, 181)))), some (.inl x), some (.inl (c2_packAt_a4 f x k4)), some (.inl (Int32.ofNat k4))] [.inr (.inr (.inl (66, 198 + 4 * k4))), .inl (c2_packAt_a4 f x k4)] (f, l) _
    refine fl_Tq.stp (pc' := 20) (lv' := [some (.inr (.inr (.inl (49, 181)))), some (.inl x), some (.inl (c2_packAt_a4 f x k4)), some (.inl (Int32.ofNat k4))]) (st' := [.inl x, .inr (.inr (.inl (66, 198 + 4 * k4))), .inl (c2_packAt_a4 f x k4)]) (m' := (f, l)) rfl rfl (fl_oks_ok ⟨(t2_kc2 (by omega)), True.intro, True.intro⟩) rfl ?_
    refine fl_Tq.cal rfl rfl (fl_oks_ok ⟨True.intro, (t2_kc2 (by omega)), True.intro, True.intro⟩) rfl ?_
    refine c2_voltsAt_q (by omega) ?_
    show fl_Tq _ 38 23 [some (.inr (.inr (.inl (49, 181)))), some (.inl x), some (.inl (c2_packAt_a4 f x k4)), some (.inl (Int32.ofNat k4))] [.inl (c2_voltsAt_v f k4 x), .inl (c2_packAt_a4 f x k4)] (f, l) _
    refine fl_Tq.stp (pc' := 24) (lv' := [some (.inr (.inr (.inl (49, 181)))), some (.inl x), some (.inl (c2_packAt_a4 f x k4)), some (.inl (Int32.ofNat k4))]) (st' := [.inl ((c2_packAt_a4 f x k4) + (c2_voltsAt_v f k4 x))]) (m' := (f, l)) rfl rfl (fl_bo rfl) rfl ?_
    refine fl_Tq.stp (pc' := 25) (lv' := [some (.inr (.inr (.inl (49, 181)))), some (.inl x), some (.inl ((c2_packAt_a4 f x k4) + (c2_voltsAt_v f k4 x))), some (.inl (Int32.ofNat k4))]) (st' := []) (m' := (f, l)) rfl rfl (fl_bo rfl) rfl ?_
    refine fl_Tq.stp (pc' := 28) (lv' := [some (.inr (.inr (.inl (49, 181)))), some (.inl x), some (.inl ((c2_packAt_a4 f x k4) + (c2_voltsAt_v f k4 x))), some (.inl ((Int32.ofNat k4) + (1 : Int32)))]) (st' := []) (m' := (f, l)) rfl rfl (fl_bo rfl) rfl ?_
    refine fl_Tq.stp (pc' := 4) (lv' := [some (.inr (.inr (.inl (49, 181)))), some (.inl x), some (.inl ((c2_packAt_a4 f x k4) + (c2_voltsAt_v f k4 x))), some (.inl ((Int32.ofNat k4) + (1 : Int32)))]) (st' := []) (m' := (f, l)) rfl rfl (fl_bo rfl) rfl ?_
    have ea : c2_packAt_a4 f x (k4 + 1) = (c2_packAt_a4 f x k4) + (c2_voltsAt_v f k4 x) := by
      show ((c2_packAt_a4 f x k4) + (c2_voltsAt_v f k4 x)) = _
      rfl
    rw [ea, ← t2_k1] at hS
    exact hS
  refine t2_for (S := fun k4 => fl_Tq (pw_P L xs) 38 4 [some (.inr (.inr (.inl (49, 181)))), some (.inl x), some (.inl (c2_packAt_a4 f x k4)), some (.inl (Int32.ofNat k4))] [] (f, l) Q) hs4 ?_
  show fl_Tq (pw_P L xs) 38 4 [some (.inr (.inr (.inl (49, 181)))), some (.inl x), some (.inl (c2_packAt_a4 f x ((f 181 5).toInt.toNat))), some (.inl (Int32.ofNat ((f 181 5).toInt.toNat)))] [] (f, l) _
  refine fl_Tq.stp (pc' := 5) (lv' := [some (.inr (.inr (.inl (49, 181)))), some (.inl x), some (.inl (c2_packAt_a4 f x ((f 181 5).toInt.toNat))), some (.inl (Int32.ofNat ((f 181 5).toInt.toNat)))]) (st' := [.inl (Int32.ofNat ((f 181 5).toInt.toNat))]) (m' := (f, l)) rfl rfl (fl_bo rfl) rfl ?_
  refine fl_Tq.stp (pc' := 6) (lv' := [some (.inr (.inr (.inl (49, 181)))), some (.inl x), some (.inl (c2_packAt_a4 f x ((f 181 5).toInt.toNat))), some (.inl (Int32.ofNat ((f 181 5).toInt.toNat)))]) (st' := [.inr (.inr (.inl (49, 181))), .inl (Int32.ofNat ((f 181 5).toInt.toNat))]) (m' := (f, l)) rfl rfl (fl_bo rfl) rfl ?_
  refine fl_Tq.gfV (k := 5) (v := f 181 5) rfl (fl_bo rfl) rfl rfl ?_
  refine fl_Tq.jt rfl (fl_bo rfl) (c2_ge_t (t2_ln (t2_nn hc.1))) rfl ?_
  refine fl_Tq.stp (pc' := 32) (lv' := [some (.inr (.inr (.inl (49, 181)))), some (.inl x), some (.inl (c2_packAt_a4 f x ((f 181 5).toInt.toNat))), some (.inl (Int32.ofNat ((f 181 5).toInt.toNat)))]) (st' := [.inl (c2_packAt_a4 f x ((f 181 5).toInt.toNat))]) (m' := (f, l)) rfl rfl (fl_bo rfl) rfl ?_
  exact fl_Tq.ret rfl rfl rfl k
noncomputable def c2_leastPart_a6 (f : t2_F) : Nat → Int32
  | 0 => (1000 : Int32)
  | k6 + 1 => t2_min_v (c2_leastPart_a6 f k6) (f (198 + 4 * k6) 3)
noncomputable def c2_leastPart_v (f : t2_F) : Int32 := c2_leastPart_a6 f ((f 181 5).toInt.toNat)
theorem c2_leastPart_q {L : Nat} {xs : Nat → Int32} {f : t2_F} {l : t2_L} {Q : Option fl_V → fl_M → Prop}  (hc : 0 ≤ (f 181 5).toInt ∧ (f 181 5).toInt ≤ 16) (k : Q (some (.inl (c2_leastPart_v f))) (f, l)) : fl_Tq (pw_P L xs) 39 0 (fl_args (am_mxl (pw_P L xs) 39) [.inr (.inr (.inl (49, 181)))]) [] (f, l) Q := by
  refine fl_Tq.cS (c := (1000 : Int32)) rfl (by decide +kernel) (fl_bo rfl) ?_
  refine fl_Tq.stp (pc' := 4) (lv' := [some (.inr (.inr (.inl (49, 181)))), some (.inl (1000 : Int32)), none]) (st' := []) (m' := (f, l)) rfl rfl (fl_bo rfl) rfl ?_
  refine fl_Tq.cI (c := (0 : Int32)) rfl (by decide +kernel) (fl_bo rfl) ?_
  refine fl_Tq.stp (pc' := 6) (lv' := [some (.inr (.inr (.inl (49, 181)))), some (.inl (1000 : Int32)), some (.inl (0 : Int32))]) (st' := []) (m' := (f, l)) rfl rfl (fl_bo rfl) rfl ?_
  have hs6 : ∀ k6 : Nat, k6 < (f 181 5).toInt.toNat → fl_Tq (pw_P L xs) 39 6 [some (.inr (.inr (.inl (49, 181)))), some (.inl (c2_leastPart_a6 f (k6 + 1))), some (.inl (Int32.ofNat (k6 + 1)))] [] (f, l) Q → fl_Tq (pw_P L xs) 39 6 [some (.inr (.inr (.inl (49, 181)))), some (.inl (c2_leastPart_a6 f k6)), some (.inl (Int32.ofNat k6))] [] (f, l) Q := by
    intro k6 hk6 hS
    refine fl_Tq.stp (pc' := 7) (lv' := [some (.inr (.inr (.inl (49, 181)))), some (.inl (c2_leastPart_a6 f k6)), some (.inl (Int32.ofNat k6))]) (st' := [.inl (Int32.ofNat k6)]) (m' := (f, l)) rfl rfl (fl_bo rfl) rfl ?_
    refine fl_Tq.stp (pc' := 8) (lv' := [some (.inr (.inr (.inl (49, 181)))), some (.inl (c2_leastPart_a6 f k6)), some (.inl (Int32.ofNat k6))]) (st' := [.inr (.inr (.inl (49, 181))), .inl (Int32.ofNat k6)]) (m' := (f, l)) rfl rfl (fl_bo rfl) rfl ?_
    refine fl_Tq.gfV (k := 5) (v := f 181 5) rfl (fl_bo rfl) rfl rfl ?_
    refine fl_Tq.jf rfl (fl_bo rfl) (c2_ge_f (t2_lk hk6 (t2_nn hc.1))) rfl ?_
    refine fl_Tq.stp (pc' := 15) (lv' := [some (.inr (.inr (.inl (49, 181)))), some (.inl (c2_leastPart_a6 f k6)), some (.inl (Int32.ofNat k6))]) (st' := [.inl (c2_leastPart_a6 f k6)]) (m' := (f, l)) rfl rfl (fl_bo rfl) rfl ?_
    refine fl_Tq.stp (pc' := 16) (lv' := [some (.inr (.inr (.inl (49, 181)))), some (.inl (c2_leastPart_a6 f k6)), some (.inl (Int32.ofNat k6))]) (st' := [.inr (.inr (.inl (49, 181))), .inl (c2_leastPart_a6 f k6)]) (m' := (f, l)) rfl rfl (fl_bo rfl) rfl ?_
    refine fl_Tq.stp (pc' := 19) (lv' := [some (.inr (.inr (.inl (49, 181)))), some (.inl (c2_leastPart_a6 f k6)), some (.inl (Int32.ofNat k6))]) (st' := [.inr (.inr (.inl (50, 182))), .inl (c2_leastPart_a6 f k6)]) (m' := (f, l)) rfl rfl (fl_bo rfl) rfl ?_
    refine fl_Tq.stp (pc' := 20) (lv' := [some (.inr (.inr (.inl (49, 181)))), some (.inl (c2_leastPart_a6 f k6)), some (.inl (Int32.ofNat k6))]) (st' := [.inl (Int32.ofNat k6), .inr (.inr (.inl (50, 182))), .inl (c2_leastPart_a6 f k6)]) (m' := (f, l)) rfl rfl (fl_bo rfl) rfl ?_
    refine fl_Tq.qld (p := 182) (τ := 50) (n := 16) (t := 66) (b := 16) (d := 3) (k := k6) rfl (fl_bo rfl) rfl (at_ofN (by omega)) (by omega) ?_
    show fl_Tq _ 39 21 [some (.inr (.inr (.inl (49, 181)))), some (.inl (c2_leastPart_a6 f k6)), some (.inl (Int32.ofNat k6))] [.inr (.inr (.inl (66, 198 + 4 * k6))), .inl (c2_leastPart_a6 f k6)] (f, l) _
    refine fl_Tq.gfV (k := 3) (v := f (198 + 4 * k6) 3) rfl (fl_oks_ok ⟨(t2_kc2 (by omega)), True.intro, True.intro⟩) rfl rfl ?_
    refine fl_Tq.cal rfl rfl (fl_bo rfl) rfl ?_
    refine t2_min_q  ?_
    show fl_Tq _ 39 27 [some (.inr (.inr (.inl (49, 181)))), some (.inl (c2_leastPart_a6 f k6)), some (.inl (Int32.ofNat k6))] [.inl (t2_min_v (c2_leastPart_a6 f k6) (f (198 + 4 * k6) 3))] (f, l) _
    refine fl_Tq.stp (pc' := 28) (lv' := [some (.inr (.inr (.inl (49, 181)))), some (.inl (t2_min_v (c2_leastPart_a6 f k6) (f (198 + 4 * k6) 3))), some (.inl (Int32.ofNat k6))]) (st' := []) (m' := (f, l)) rfl rfl (fl_bo rfl) rfl ?_
    refine fl_Tq.stp (pc' := 31) (lv' := [some (.inr (.inr (.inl (49, 181)))), some (.inl (t2_min_v (c2_leastPart_a6 f k6) (f (198 + 4 * k6) 3))), some (.inl ((Int32.ofNat k6) + (1 : Int32)))]) (st' := []) (m' := (f, l)) rfl rfl (fl_bo rfl) rfl ?_
    refine fl_Tq.stp (pc' := 6) (lv' := [some (.inr (.inr (.inl (49, 181)))), some (.inl (t2_min_v (c2_leastPart_a6 f k6) (f (198 + 4 * k6) 3))), some (.inl ((Int32.ofNat k6) + (1 : Int32)))]) (st' := []) (m' := (f, l)) rfl rfl (fl_bo rfl) rfl ?_
    have ea : c2_leastPart_a6 f (k6 + 1) = t2_min_v (c2_leastPart_a6 f k6) (f (198 + 4 * k6) 3) := by
      show (t2_min_v (c2_leastPart_a6 f k6) (f (198 + 4 * k6) 3)) = _
      rfl
    rw [ea, ← t2_k1] at hS
    exact hS
  refine t2_for (S := fun k6 => fl_Tq (pw_P L xs) 39 6 [some (.inr (.inr (.inl (49, 181)))), some (.inl (c2_leastPart_a6 f k6)), some (.inl (Int32.ofNat k6))] [] (f, l) Q) hs6 ?_
  show fl_Tq (pw_P L xs) 39 6 [some (.inr (.inr (.inl (49, 181)))), some (.inl (c2_leastPart_a6 f ((f 181 5).toInt.toNat))), some (.inl (Int32.ofNat ((f 181 5).toInt.toNat)))] [] (f, l) _
  refine fl_Tq.stp (pc' := 7) (lv' := [some (.inr (.inr (.inl (49, 181)))), some (.inl (c2_leastPart_a6 f ((f 181 5).toInt.toNat))), some (.inl (Int32.ofNat ((f 181 5).toInt.toNat)))]) (st' := [.inl (Int32.ofNat ((f 181 5).toInt.toNat))]) (m' := (f, l)) rfl rfl (fl_bo rfl) rfl ?_
  refine fl_Tq.stp (pc' := 8) (lv' := [some (.inr (.inr (.inl (49, 181)))), some (.inl (c2_leastPart_a6 f ((f 181 5).toInt.toNat))), some (.inl (Int32.ofNat ((f 181 5).toInt.toNat)))]) (st' := [.inr (.inr (.inl (49, 181))), .inl (Int32.ofNat ((f 181 5).toInt.toNat))]) (m' := (f, l)) rfl rfl (fl_bo rfl) rfl ?_
  refine fl_Tq.gfV (k := 5) (v := f 181 5) rfl (fl_bo rfl) rfl rfl ?_
  refine fl_Tq.jt rfl (fl_bo rfl) (c2_ge_t (t2_ln (t2_nn hc.1))) rfl ?_
  refine fl_Tq.stp (pc' := 35) (lv' := [some (.inr (.inr (.inl (49, 181)))), some (.inl (c2_leastPart_a6 f ((f 181 5).toInt.toNat))), some (.inl (Int32.ofNat ((f 181 5).toInt.toNat)))]) (st' := [.inl (c2_leastPart_a6 f ((f 181 5).toInt.toNat))]) (m' := (f, l)) rfl rfl (fl_bo rfl) rfl ?_
  exact fl_Tq.ret rfl rfl rfl k
noncomputable def c2_allCharge_a4 (f : t2_F) : Nat → Int64
  | 0 => (0 : Int64)
  | k4 + 1 => (c2_allCharge_a4 f k4) + ((f (198 + 4 * k4) 2).toInt64)
noncomputable def c2_allCharge_v (f : t2_F) : Int64 := c2_allCharge_a4 f ((f 181 5).toInt.toNat)
theorem c2_allCharge_q {L : Nat} {xs : Nat → Int32} {f : t2_F} {l : t2_L} {Q : Option fl_V → fl_M → Prop}  (hc : 0 ≤ (f 181 5).toInt ∧ (f 181 5).toInt ≤ 16) (k : Q (some (.inr (.inl (c2_allCharge_v f)))) (f, l)) : fl_Tq (pw_P L xs) 42 0 (fl_args (am_mxl (pw_P L xs) 42) [.inr (.inr (.inl (49, 181)))]) [] (f, l) Q := by
  refine fl_Tq.stp (pc' := 1) (lv' := [some (.inr (.inr (.inl (49, 181)))), none, none, none]) (st' := [.inr (.inl (0 : Int64))]) (m' := (f, l)) rfl rfl (fl_bo rfl) rfl ?_
  refine fl_Tq.stp (pc' := 2) (lv' := [some (.inr (.inr (.inl (49, 181)))), some (.inr (.inl (0 : Int64))), none, none]) (st' := []) (m' := (f, l)) rfl rfl (fl_bo rfl) rfl ?_
  refine fl_Tq.cI (c := (0 : Int32)) rfl (by decide +kernel) (fl_bo rfl) ?_
  refine fl_Tq.stp (pc' := 4) (lv' := [some (.inr (.inr (.inl (49, 181)))), some (.inr (.inl (0 : Int64))), none, some (.inl (0 : Int32))]) (st' := []) (m' := (f, l)) rfl rfl (fl_bo rfl) rfl ?_
  have hs4 : ∀ k4 : Nat, k4 < (f 181 5).toInt.toNat → fl_Tq (pw_P L xs) 42 4 [some (.inr (.inr (.inl (49, 181)))), some (.inr (.inl (c2_allCharge_a4 f (k4 + 1)))), none, some (.inl (Int32.ofNat (k4 + 1)))] [] (f, l) Q → fl_Tq (pw_P L xs) 42 4 [some (.inr (.inr (.inl (49, 181)))), some (.inr (.inl (c2_allCharge_a4 f k4))), none, some (.inl (Int32.ofNat k4))] [] (f, l) Q := by
    intro k4 hk4 hS
    refine fl_Tq.stp (pc' := 5) (lv' := [some (.inr (.inr (.inl (49, 181)))), some (.inr (.inl (c2_allCharge_a4 f k4))), none, some (.inl (Int32.ofNat k4))]) (st' := [.inl (Int32.ofNat k4)]) (m' := (f, l)) rfl rfl (fl_bo rfl) rfl ?_
    refine fl_Tq.stp (pc' := 6) (lv' := [some (.inr (.inr (.inl (49, 181)))), some (.inr (.inl (c2_allCharge_a4 f k4))), none, some (.inl (Int32.ofNat k4))]) (st' := [.inr (.inr (.inl (49, 181))), .inl (Int32.ofNat k4)]) (m' := (f, l)) rfl rfl (fl_bo rfl) rfl ?_
    refine fl_Tq.gfV (k := 5) (v := f 181 5) rfl (fl_bo rfl) rfl rfl ?_
    refine fl_Tq.jf rfl (fl_bo rfl) (c2_ge_f (t2_lk hk4 (t2_nn hc.1))) rfl ?_
    refine fl_Tq.stp (pc' := 13) (lv' := [some (.inr (.inr (.inl (49, 181)))), some (.inr (.inl (c2_allCharge_a4 f k4))), none, some (.inl (Int32.ofNat k4))]) (st' := [.inr (.inl (c2_allCharge_a4 f k4))]) (m' := (f, l)) rfl rfl (fl_bo rfl) rfl ?_
    refine fl_Tq.stp (pc' := 14) (lv' := [some (.inr (.inr (.inl (49, 181)))), some (.inr (.inl (c2_allCharge_a4 f k4))), none, some (.inl (Int32.ofNat k4))]) (st' := [.inr (.inr (.inl (49, 181))), .inr (.inl (c2_allCharge_a4 f k4))]) (m' := (f, l)) rfl rfl (fl_bo rfl) rfl ?_
    refine fl_Tq.stp (pc' := 17) (lv' := [some (.inr (.inr (.inl (49, 181)))), some (.inr (.inl (c2_allCharge_a4 f k4))), none, some (.inl (Int32.ofNat k4))]) (st' := [.inr (.inr (.inl (50, 182))), .inr (.inl (c2_allCharge_a4 f k4))]) (m' := (f, l)) rfl rfl (fl_bo rfl) rfl ?_
    refine fl_Tq.stp (pc' := 18) (lv' := [some (.inr (.inr (.inl (49, 181)))), some (.inr (.inl (c2_allCharge_a4 f k4))), none, some (.inl (Int32.ofNat k4))]) (st' := [.inl (Int32.ofNat k4), .inr (.inr (.inl (50, 182))), .inr (.inl (c2_allCharge_a4 f k4))]) (m' := (f, l)) rfl rfl (fl_bo rfl) rfl ?_
    refine fl_Tq.qld (p := 182) (τ := 50) (n := 16) (t := 66) (b := 16) (d := 3) (k := k4) rfl (fl_bo rfl) rfl (at_ofN (by omega)) (by omega) ?_
    show fl_Tq _ 42 19 [some (.inr (.inr (.inl (49, 181)))), some (.inr (.inl (c2_allCharge_a4 f k4))), none, some (.inl (Int32.ofNat k4))] [.inr (.inr (.inl (66, 198 + 4 * k4))), .inr (.inl (c2_allCharge_a4 f k4))] (f, l) _
    refine fl_Tq.gfV (k := 2) (v := f (198 + 4 * k4) 2) rfl (fl_oks_ok ⟨(t2_kc2 (by omega)), True.intro, True.intro⟩) rfl rfl ?_
    refine fl_Tq.stp (pc' := 23) (lv' := [some (.inr (.inr (.inl (49, 181)))), some (.inr (.inl (c2_allCharge_a4 f k4))), none, some (.inl (Int32.ofNat k4))]) (st' := [.inr (.inl ((f (198 + 4 * k4) 2).toInt64)), .inr (.inl (c2_allCharge_a4 f k4))]) (m' := (f, l)) rfl rfl (fl_bo rfl) rfl ?_
    refine fl_Tq.stp (pc' := 24) (lv' := [some (.inr (.inr (.inl (49, 181)))), some (.inr (.inl (c2_allCharge_a4 f k4))), none, some (.inl (Int32.ofNat k4))]) (st' := [.inr (.inl ((c2_allCharge_a4 f k4) + ((f (198 + 4 * k4) 2).toInt64)))]) (m' := (f, l)) rfl rfl (fl_bo rfl) rfl ?_
    refine fl_Tq.stp (pc' := 25) (lv' := [some (.inr (.inr (.inl (49, 181)))), some (.inr (.inl ((c2_allCharge_a4 f k4) + ((f (198 + 4 * k4) 2).toInt64)))), none, some (.inl (Int32.ofNat k4))]) (st' := []) (m' := (f, l)) rfl rfl (fl_bo rfl) rfl ?_
    refine fl_Tq.stp (pc' := 28) (lv' := [some (.inr (.inr (.inl (49, 181)))), some (.inr (.inl ((c2_allCharge_a4 f k4) + ((f (198 + 4 * k4) 2).toInt64)))), none, some (.inl ((Int32.ofNat k4) + (1 : Int32)))]) (st' := []) (m' := (f, l)) rfl rfl (fl_bo rfl) rfl ?_
    refine fl_Tq.stp (pc' := 4) (lv' := [some (.inr (.inr (.inl (49, 181)))), some (.inr (.inl ((c2_allCharge_a4 f k4) + ((f (198 + 4 * k4) 2).toInt64)))), none, some (.inl ((Int32.ofNat k4) + (1 : Int32)))]) (st' := []) (m' := (f, l)) rfl rfl (fl_bo rfl) rfl ?_
    have ea : c2_allCharge_a4 f (k4 + 1) = (c2_allCharge_a4 f k4) + ((f (198 + 4 * k4) 2).toInt64) := by
      show ((c2_allCharge_a4 f k4) + ((f (198 + 4 * k4) 2).toInt64)) = _
      rfl
    rw [ea, ← t2_k1] at hS
    exact hS
  refine t2_for (S := fun k4 => fl_Tq (pw_P L xs) 42 4 [some (.inr (.inr (.inl (49, 181)))), some (.inr (.inl (c2_allCharge_a4 f k4))), none, some (.inl (Int32.ofNat k4))] [] (f, l) Q) hs4 ?_
  show fl_Tq (pw_P L xs) 42 4 [some (.inr (.inr (.inl (49, 181)))), some (.inr (.inl (c2_allCharge_a4 f ((f 181 5).toInt.toNat)))), none, some (.inl (Int32.ofNat ((f 181 5).toInt.toNat)))] [] (f, l) _
  refine fl_Tq.stp (pc' := 5) (lv' := [some (.inr (.inr (.inl (49, 181)))), some (.inr (.inl (c2_allCharge_a4 f ((f 181 5).toInt.toNat)))), none, some (.inl (Int32.ofNat ((f 181 5).toInt.toNat)))]) (st' := [.inl (Int32.ofNat ((f 181 5).toInt.toNat))]) (m' := (f, l)) rfl rfl (fl_bo rfl) rfl ?_
  refine fl_Tq.stp (pc' := 6) (lv' := [some (.inr (.inr (.inl (49, 181)))), some (.inr (.inl (c2_allCharge_a4 f ((f 181 5).toInt.toNat)))), none, some (.inl (Int32.ofNat ((f 181 5).toInt.toNat)))]) (st' := [.inr (.inr (.inl (49, 181))), .inl (Int32.ofNat ((f 181 5).toInt.toNat))]) (m' := (f, l)) rfl rfl (fl_bo rfl) rfl ?_
  refine fl_Tq.gfV (k := 5) (v := f 181 5) rfl (fl_bo rfl) rfl rfl ?_
  refine fl_Tq.jt rfl (fl_bo rfl) (c2_ge_t (t2_ln (t2_nn hc.1))) rfl ?_
  refine fl_Tq.stp (pc' := 32) (lv' := [some (.inr (.inr (.inl (49, 181)))), some (.inr (.inl (c2_allCharge_a4 f ((f 181 5).toInt.toNat)))), none, some (.inl (Int32.ofNat ((f 181 5).toInt.toNat)))]) (st' := [.inr (.inl (c2_allCharge_a4 f ((f 181 5).toInt.toNat)))]) (m' := (f, l)) rfl rfl (fl_bo rfl) rfl ?_
  exact fl_Tq.ret rfl rfl rfl k
noncomputable def c2_allFull_a4 (f : t2_F) : Nat → Int64
  | 0 => (0 : Int64)
  | k4 + 1 => (c2_allFull_a4 f k4) + (((f (198 + 4 * k4) 0) * (3600 : Int32)).toInt64)
noncomputable def c2_allFull_v (f : t2_F) : Int64 := c2_allFull_a4 f ((f 181 5).toInt.toNat)
theorem c2_allFull_q {L : Nat} {xs : Nat → Int32} {f : t2_F} {l : t2_L} {Q : Option fl_V → fl_M → Prop}  (hc : 0 ≤ (f 181 5).toInt ∧ (f 181 5).toInt ≤ 16) (k : Q (some (.inr (.inl (c2_allFull_v f)))) (f, l)) : fl_Tq (pw_P L xs) 43 0 (fl_args (am_mxl (pw_P L xs) 43) [.inr (.inr (.inl (49, 181)))]) [] (f, l) Q := by
  refine fl_Tq.stp (pc' := 1) (lv' := [some (.inr (.inr (.inl (49, 181)))), none, none, none]) (st' := [.inr (.inl (0 : Int64))]) (m' := (f, l)) rfl rfl (fl_bo rfl) rfl ?_
  refine fl_Tq.stp (pc' := 2) (lv' := [some (.inr (.inr (.inl (49, 181)))), some (.inr (.inl (0 : Int64))), none, none]) (st' := []) (m' := (f, l)) rfl rfl (fl_bo rfl) rfl ?_
  refine fl_Tq.cI (c := (0 : Int32)) rfl (by decide +kernel) (fl_bo rfl) ?_
  refine fl_Tq.stp (pc' := 4) (lv' := [some (.inr (.inr (.inl (49, 181)))), some (.inr (.inl (0 : Int64))), none, some (.inl (0 : Int32))]) (st' := []) (m' := (f, l)) rfl rfl (fl_bo rfl) rfl ?_
  have hs4 : ∀ k4 : Nat, k4 < (f 181 5).toInt.toNat → fl_Tq (pw_P L xs) 43 4 [some (.inr (.inr (.inl (49, 181)))), some (.inr (.inl (c2_allFull_a4 f (k4 + 1)))), none, some (.inl (Int32.ofNat (k4 + 1)))] [] (f, l) Q → fl_Tq (pw_P L xs) 43 4 [some (.inr (.inr (.inl (49, 181)))), some (.inr (.inl (c2_allFull_a4 f k4))), none, some (.inl (Int32.ofNat k4))] [] (f, l) Q := by
    intro k4 hk4 hS
    refine fl_Tq.stp (pc' := 5) (lv' := [some (.inr (.inr (.inl (49, 181)))), some (.inr (.inl (c2_allFull_a4 f k4))), none, some (.inl (Int32.ofNat k4))]) (st' := [.inl (Int32.ofNat k4)]) (m' := (f, l)) rfl rfl (fl_bo rfl) rfl ?_
    refine fl_Tq.stp (pc' := 6) (lv' := [some (.inr (.inr (.inl (49, 181)))), some (.inr (.inl (c2_allFull_a4 f k4))), none, some (.inl (Int32.ofNat k4))]) (st' := [.inr (.inr (.inl (49, 181))), .inl (Int32.ofNat k4)]) (m' := (f, l)) rfl rfl (fl_bo rfl) rfl ?_
    refine fl_Tq.gfV (k := 5) (v := f 181 5) rfl (fl_bo rfl) rfl rfl ?_
    refine fl_Tq.jf rfl (fl_bo rfl) (c2_ge_f (t2_lk hk4 (t2_nn hc.1))) rfl ?_
    refine fl_Tq.stp (pc' := 13) (lv' := [some (.inr (.inr (.inl (49, 181)))), some (.inr (.inl (c2_allFull_a4 f k4))), none, some (.inl (Int32.ofNat k4))]) (st' := [.inr (.inl (c2_allFull_a4 f k4))]) (m' := (f, l)) rfl rfl (fl_bo rfl) rfl ?_
    refine fl_Tq.stp (pc' := 14) (lv' := [some (.inr (.inr (.inl (49, 181)))), some (.inr (.inl (c2_allFull_a4 f k4))), none, some (.inl (Int32.ofNat k4))]) (st' := [.inr (.inr (.inl (49, 181))), .inr (.inl (c2_allFull_a4 f k4))]) (m' := (f, l)) rfl rfl (fl_bo rfl) rfl ?_
    refine fl_Tq.stp (pc' := 17) (lv' := [some (.inr (.inr (.inl (49, 181)))), some (.inr (.inl (c2_allFull_a4 f k4))), none, some (.inl (Int32.ofNat k4))]) (st' := [.inr (.inr (.inl (50, 182))), .inr (.inl (c2_allFull_a4 f k4))]) (m' := (f, l)) rfl rfl (fl_bo rfl) rfl ?_
    refine fl_Tq.stp (pc' := 18) (lv' := [some (.inr (.inr (.inl (49, 181)))), some (.inr (.inl (c2_allFull_a4 f k4))), none, some (.inl (Int32.ofNat k4))]) (st' := [.inl (Int32.ofNat k4), .inr (.inr (.inl (50, 182))), .inr (.inl (c2_allFull_a4 f k4))]) (m' := (f, l)) rfl rfl (fl_bo rfl) rfl ?_
    refine fl_Tq.qld (p := 182) (τ := 50) (n := 16) (t := 66) (b := 16) (d := 3) (k := k4) rfl (fl_bo rfl) rfl (at_ofN (by omega)) (by omega) ?_
    show fl_Tq _ 43 19 [some (.inr (.inr (.inl (49, 181)))), some (.inr (.inl (c2_allFull_a4 f k4))), none, some (.inl (Int32.ofNat k4))] [.inr (.inr (.inl (66, 198 + 4 * k4))), .inr (.inl (c2_allFull_a4 f k4))] (f, l) _
    refine fl_Tq.cal rfl rfl (fl_oks_ok ⟨(t2_kc2 (by omega)), True.intro, True.intro⟩) rfl ?_
    refine fl_Tq.stp (pc' := 1) (lv' := [some (.inr (.inr (.inl (66, 198 + 4 * k4))))]) (st' := [.inr (.inr (.inl (66, 198 + 4 * k4)))]) (m' := (f, l)) rfl rfl (fl_bo rfl) rfl ?_
    refine fl_Tq.gfV (k := 0) (v := f (198 + 4 * k4) 0) rfl (fl_oks_ok ⟨(t2_kc2 (by omega)), True.intro⟩) rfl rfl ?_
    refine fl_Tq.cS (c := (3600 : Int32)) rfl (by decide +kernel) (fl_bo rfl) ?_
    refine fl_Tq.stp (pc' := 8) (lv' := [some (.inr (.inr (.inl (66, 198 + 4 * k4))))]) (st' := [.inl ((f (198 + 4 * k4) 0) * (3600 : Int32))]) (m' := (f, l)) rfl rfl (fl_bo rfl) rfl ?_
    refine fl_Tq.ret rfl rfl rfl ?_
    show fl_Tq _ 43 22 [some (.inr (.inr (.inl (49, 181)))), some (.inr (.inl (c2_allFull_a4 f k4))), none, some (.inl (Int32.ofNat k4))] [.inl ((f (198 + 4 * k4) 0) * (3600 : Int32)), .inr (.inl (c2_allFull_a4 f k4))] (f, l) _
    refine fl_Tq.stp (pc' := 23) (lv' := [some (.inr (.inr (.inl (49, 181)))), some (.inr (.inl (c2_allFull_a4 f k4))), none, some (.inl (Int32.ofNat k4))]) (st' := [.inr (.inl (((f (198 + 4 * k4) 0) * (3600 : Int32)).toInt64)), .inr (.inl (c2_allFull_a4 f k4))]) (m' := (f, l)) rfl rfl (fl_bo rfl) rfl ?_
    refine fl_Tq.stp (pc' := 24) (lv' := [some (.inr (.inr (.inl (49, 181)))), some (.inr (.inl (c2_allFull_a4 f k4))), none, some (.inl (Int32.ofNat k4))]) (st' := [.inr (.inl ((c2_allFull_a4 f k4) + (((f (198 + 4 * k4) 0) * (3600 : Int32)).toInt64)))]) (m' := (f, l)) rfl rfl (fl_bo rfl) rfl ?_
    refine fl_Tq.stp (pc' := 25) (lv' := [some (.inr (.inr (.inl (49, 181)))), some (.inr (.inl ((c2_allFull_a4 f k4) + (((f (198 + 4 * k4) 0) * (3600 : Int32)).toInt64)))), none, some (.inl (Int32.ofNat k4))]) (st' := []) (m' := (f, l)) rfl rfl (fl_bo rfl) rfl ?_
    refine fl_Tq.stp (pc' := 28) (lv' := [some (.inr (.inr (.inl (49, 181)))), some (.inr (.inl ((c2_allFull_a4 f k4) + (((f (198 + 4 * k4) 0) * (3600 : Int32)).toInt64)))), none, some (.inl ((Int32.ofNat k4) + (1 : Int32)))]) (st' := []) (m' := (f, l)) rfl rfl (fl_bo rfl) rfl ?_
    refine fl_Tq.stp (pc' := 4) (lv' := [some (.inr (.inr (.inl (49, 181)))), some (.inr (.inl ((c2_allFull_a4 f k4) + (((f (198 + 4 * k4) 0) * (3600 : Int32)).toInt64)))), none, some (.inl ((Int32.ofNat k4) + (1 : Int32)))]) (st' := []) (m' := (f, l)) rfl rfl (fl_bo rfl) rfl ?_
    have ea : c2_allFull_a4 f (k4 + 1) = (c2_allFull_a4 f k4) + (((f (198 + 4 * k4) 0) * (3600 : Int32)).toInt64) := by
      show ((c2_allFull_a4 f k4) + (((f (198 + 4 * k4) 0) * (3600 : Int32)).toInt64)) = _
      rfl
    rw [ea, ← t2_k1] at hS
    exact hS
  refine t2_for (S := fun k4 => fl_Tq (pw_P L xs) 43 4 [some (.inr (.inr (.inl (49, 181)))), some (.inr (.inl (c2_allFull_a4 f k4))), none, some (.inl (Int32.ofNat k4))] [] (f, l) Q) hs4 ?_
  show fl_Tq (pw_P L xs) 43 4 [some (.inr (.inr (.inl (49, 181)))), some (.inr (.inl (c2_allFull_a4 f ((f 181 5).toInt.toNat)))), none, some (.inl (Int32.ofNat ((f 181 5).toInt.toNat)))] [] (f, l) _
  refine fl_Tq.stp (pc' := 5) (lv' := [some (.inr (.inr (.inl (49, 181)))), some (.inr (.inl (c2_allFull_a4 f ((f 181 5).toInt.toNat)))), none, some (.inl (Int32.ofNat ((f 181 5).toInt.toNat)))]) (st' := [.inl (Int32.ofNat ((f 181 5).toInt.toNat))]) (m' := (f, l)) rfl rfl (fl_bo rfl) rfl ?_
  refine fl_Tq.stp (pc' := 6) (lv' := [some (.inr (.inr (.inl (49, 181)))), some (.inr (.inl (c2_allFull_a4 f ((f 181 5).toInt.toNat)))), none, some (.inl (Int32.ofNat ((f 181 5).toInt.toNat)))]) (st' := [.inr (.inr (.inl (49, 181))), .inl (Int32.ofNat ((f 181 5).toInt.toNat))]) (m' := (f, l)) rfl rfl (fl_bo rfl) rfl ?_
  refine fl_Tq.gfV (k := 5) (v := f 181 5) rfl (fl_bo rfl) rfl rfl ?_
  refine fl_Tq.jt rfl (fl_bo rfl) (c2_ge_t (t2_ln (t2_nn hc.1))) rfl ?_
  refine fl_Tq.stp (pc' := 32) (lv' := [some (.inr (.inr (.inl (49, 181)))), some (.inr (.inl (c2_allFull_a4 f ((f 181 5).toInt.toNat)))), none, some (.inl (Int32.ofNat ((f 181 5).toInt.toNat)))]) (st' := [.inr (.inl (c2_allFull_a4 f ((f 181 5).toInt.toNat)))]) (m' := (f, l)) rfl rfl (fl_bo rfl) rfl ?_
  exact fl_Tq.ret rfl rfl rfl k
noncomputable def c2_chargeApart_a4 (f : t2_F) (x : Int32) : Nat → Int32
  | 0 => (0 : Int32)
  | k4 + 1 => (c2_chargeApart_a4 f x k4) + (if ((x >>> ((Int32.ofNat k4) &&& 31)) &&& (1 : Int32)).toInt = 0 then -(f (198 + 4 * k4) 2) else f (198 + 4 * k4) 2)
noncomputable def c2_chargeApart_v (f : t2_F) (x : Int32) : Int32 := c2_chargeApart_a4 f x ((f 181 5).toInt.toNat)
theorem c2_chargeApart_q {L : Nat} {xs : Nat → Int32} {f : t2_F} {l : t2_L} {Q : Option fl_V → fl_M → Prop} {x : Int32} (hc : 0 ≤ (f 181 5).toInt ∧ (f 181 5).toInt ≤ 16) (k : Q (some (.inl (c2_chargeApart_v f x))) (f, l)) : fl_Tq (pw_P L xs) 45 0 (fl_args (am_mxl (pw_P L xs) 45) [.inr (.inr (.inl (49, 181))), .inl x]) [] (f, l) Q := by
  refine fl_Tq.cI (c := (0 : Int32)) rfl (by decide +kernel) (fl_bo rfl) ?_
  refine fl_Tq.stp (pc' := 2) (lv' := [some (.inr (.inr (.inl (49, 181)))), some (.inl x), some (.inl (0 : Int32)), none]) (st' := []) (m' := (f, l)) rfl rfl (fl_bo rfl) rfl ?_
  refine fl_Tq.cI (c := (0 : Int32)) rfl (by decide +kernel) (fl_bo rfl) ?_
  refine fl_Tq.stp (pc' := 4) (lv' := [some (.inr (.inr (.inl (49, 181)))), some (.inl x), some (.inl (0 : Int32)), some (.inl (0 : Int32))]) (st' := []) (m' := (f, l)) rfl rfl (fl_bo rfl) rfl ?_
  have hs4 : ∀ k4 : Nat, k4 < (f 181 5).toInt.toNat → fl_Tq (pw_P L xs) 45 4 [some (.inr (.inr (.inl (49, 181)))), some (.inl x), some (.inl (c2_chargeApart_a4 f x (k4 + 1))), some (.inl (Int32.ofNat (k4 + 1)))] [] (f, l) Q → fl_Tq (pw_P L xs) 45 4 [some (.inr (.inr (.inl (49, 181)))), some (.inl x), some (.inl (c2_chargeApart_a4 f x k4)), some (.inl (Int32.ofNat k4))] [] (f, l) Q := by
    intro k4 hk4 hS
    refine fl_Tq.stp (pc' := 5) (lv' := [some (.inr (.inr (.inl (49, 181)))), some (.inl x), some (.inl (c2_chargeApart_a4 f x k4)), some (.inl (Int32.ofNat k4))]) (st' := [.inl (Int32.ofNat k4)]) (m' := (f, l)) rfl rfl (fl_bo rfl) rfl ?_
    refine fl_Tq.stp (pc' := 6) (lv' := [some (.inr (.inr (.inl (49, 181)))), some (.inl x), some (.inl (c2_chargeApart_a4 f x k4)), some (.inl (Int32.ofNat k4))]) (st' := [.inr (.inr (.inl (49, 181))), .inl (Int32.ofNat k4)]) (m' := (f, l)) rfl rfl (fl_bo rfl) rfl ?_
    refine fl_Tq.gfV (k := 5) (v := f 181 5) rfl (fl_bo rfl) rfl rfl ?_
    refine fl_Tq.jf rfl (fl_bo rfl) (c2_ge_f (t2_lk hk4 (t2_nn hc.1))) rfl ?_
    refine fl_Tq.stp (pc' := 13) (lv' := [some (.inr (.inr (.inl (49, 181)))), some (.inl x), some (.inl (c2_chargeApart_a4 f x k4)), some (.inl (Int32.ofNat k4))]) (st' := [.inl (c2_chargeApart_a4 f x k4)]) (m' := (f, l)) rfl rfl (fl_bo rfl) rfl ?_
    refine fl_Tq.stp (pc' := 14) (lv' := [some (.inr (.inr (.inl (49, 181)))), some (.inl x), some (.inl (c2_chargeApart_a4 f x k4)), some (.inl (Int32.ofNat k4))]) (st' := [.inl x, .inl (c2_chargeApart_a4 f x k4)]) (m' := (f, l)) rfl rfl (fl_bo rfl) rfl ?_
    refine fl_Tq.stp (pc' := 15) (lv' := [some (.inr (.inr (.inl (49, 181)))), some (.inl x), some (.inl (c2_chargeApart_a4 f x k4)), some (.inl (Int32.ofNat k4))]) (st' := [.inl (Int32.ofNat k4), .inl x, .inl (c2_chargeApart_a4 f x k4)]) (m' := (f, l)) rfl rfl (fl_bo rfl) rfl ?_
    refine fl_Tq.stp (pc' := 16) (lv' := [some (.inr (.inr (.inl (49, 181)))), some (.inl x), some (.inl (c2_chargeApart_a4 f x k4)), some (.inl (Int32.ofNat k4))]) (st' := [.inl (x >>> ((Int32.ofNat k4) &&& 31)), .inl (c2_chargeApart_a4 f x k4)]) (m' := (f, l)) rfl rfl (fl_bo rfl) rfl ?_
    refine fl_Tq.cI (c := (1 : Int32)) rfl (by decide +kernel) (fl_bo rfl) ?_
    refine fl_Tq.stp (pc' := 18) (lv' := [some (.inr (.inr (.inl (49, 181)))), some (.inl x), some (.inl (c2_chargeApart_a4 f x k4)), some (.inl (Int32.ofNat k4))]) (st' := [.inl ((x >>> ((Int32.ofNat k4) &&& 31)) &&& (1 : Int32)), .inl (c2_chargeApart_a4 f x k4)]) (m' := (f, l)) rfl rfl (fl_bo rfl) rfl ?_
    have hj45 : fl_Tq (pw_P L xs) 45 43 [some (.inr (.inr (.inl (49, 181)))), some (.inl x), some (.inl (c2_chargeApart_a4 f x k4)), some (.inl (Int32.ofNat k4))] [.inl (if ((x >>> ((Int32.ofNat k4) &&& 31)) &&& (1 : Int32)).toInt = 0 then -(f (198 + 4 * k4) 2) else f (198 + 4 * k4) 2), .inl (c2_chargeApart_a4 f x k4)] (f, l) Q → fl_Tq (pw_P L xs) 45 18 [some (.inr (.inr (.inl (49, 181)))), some (.inl x), some (.inl (c2_chargeApart_a4 f x k4)), some (.inl (Int32.ofNat k4))] [.inl ((x >>> ((Int32.ofNat k4) &&& 31)) &&& (1 : Int32)), .inl (c2_chargeApart_a4 f x k4)] (f, l) Q := by
      intro hJ
      by_cases h1 : ((x >>> ((Int32.ofNat k4) &&& 31)) &&& (1 : Int32)).toInt = 0
      · refine fl_Tq.zt rfl (fl_bo rfl) (c1_eq_t h1) rfl ?_
        refine fl_Tq.stp (pc' := 34) (lv' := [some (.inr (.inr (.inl (49, 181)))), some (.inl x), some (.inl (c2_chargeApart_a4 f x k4)), some (.inl (Int32.ofNat k4))]) (st' := [.inr (.inr (.inl (49, 181))), .inl (c2_chargeApart_a4 f x k4)]) (m' := (f, l)) rfl rfl (fl_bo rfl) rfl ?_
        refine fl_Tq.stp (pc' := 37) (lv' := [some (.inr (.inr (.inl (49, 181)))), some (.inl x), some (.inl (c2_chargeApart_a4 f x k4)), some (.inl (Int32.ofNat k4))]) (st' := [.inr (.inr (.inl (50, 182))), .inl (c2_chargeApart_a4 f x k4)]) (m' := (f, l)) rfl rfl (fl_bo rfl) rfl ?_
        refine fl_Tq.stp (pc' := 38) (lv' := [some (.inr (.inr (.inl (49, 181)))), some (.inl x), some (.inl (c2_chargeApart_a4 f x k4)), some (.inl (Int32.ofNat k4))]) (st' := [.inl (Int32.ofNat k4), .inr (.inr (.inl (50, 182))), .inl (c2_chargeApart_a4 f x k4)]) (m' := (f, l)) rfl rfl (fl_bo rfl) rfl ?_
        refine fl_Tq.qld (p := 182) (τ := 50) (n := 16) (t := 66) (b := 16) (d := 3) (k := k4) rfl (fl_bo rfl) rfl (at_ofN (by omega)) (by omega) ?_
        show fl_Tq _ 45 39 [some (.inr (.inr (.inl (49, 181)))), some (.inl x), some (.inl (c2_chargeApart_a4 f x k4)), some (.inl (Int32.ofNat k4))] [.inr (.inr (.inl (66, 198 + 4 * k4))), .inl (c2_chargeApart_a4 f x k4)] (f, l) _
        refine fl_Tq.gfV (k := 2) (v := f (198 + 4 * k4) 2) rfl (fl_oks_ok ⟨(t2_kc2 (by omega)), True.intro, True.intro⟩) rfl rfl ?_
        refine fl_Tq.stp (pc' := 43) (lv' := [some (.inr (.inr (.inl (49, 181)))), some (.inl x), some (.inl (c2_chargeApart_a4 f x k4)), some (.inl (Int32.ofNat k4))]) (st' := [.inl (-(f (198 + 4 * k4) 2)), .inl (c2_chargeApart_a4 f x k4)]) (m' := (f, l)) rfl rfl (fl_bo rfl) rfl ?_
        have e0 : (if ((x >>> ((Int32.ofNat k4) &&& 31)) &&& (1 : Int32)).toInt = 0 then -(f (198 + 4 * k4) 2) else f (198 + 4 * k4) 2) = -(f (198 + 4 * k4) 2) := by simp only [if_pos h1]
        rw [e0] at hJ
        exact hJ
      · refine fl_Tq.zf rfl (fl_bo rfl) (c1_eq_f h1) rfl ?_
        refine fl_Tq.stp (pc' := 22) (lv' := [some (.inr (.inr (.inl (49, 181)))), some (.inl x), some (.inl (c2_chargeApart_a4 f x k4)), some (.inl (Int32.ofNat k4))]) (st' := [.inr (.inr (.inl (49, 181))), .inl (c2_chargeApart_a4 f x k4)]) (m' := (f, l)) rfl rfl (fl_bo rfl) rfl ?_
        refine fl_Tq.stp (pc' := 25) (lv' := [some (.inr (.inr (.inl (49, 181)))), some (.inl x), some (.inl (c2_chargeApart_a4 f x k4)), some (.inl (Int32.ofNat k4))]) (st' := [.inr (.inr (.inl (50, 182))), .inl (c2_chargeApart_a4 f x k4)]) (m' := (f, l)) rfl rfl (fl_bo rfl) rfl ?_
        refine fl_Tq.stp (pc' := 26) (lv' := [some (.inr (.inr (.inl (49, 181)))), some (.inl x), some (.inl (c2_chargeApart_a4 f x k4)), some (.inl (Int32.ofNat k4))]) (st' := [.inl (Int32.ofNat k4), .inr (.inr (.inl (50, 182))), .inl (c2_chargeApart_a4 f x k4)]) (m' := (f, l)) rfl rfl (fl_bo rfl) rfl ?_
        refine fl_Tq.qld (p := 182) (τ := 50) (n := 16) (t := 66) (b := 16) (d := 3) (k := k4) rfl (fl_bo rfl) rfl (at_ofN (by omega)) (by omega) ?_
        show fl_Tq _ 45 27 [some (.inr (.inr (.inl (49, 181)))), some (.inl x), some (.inl (c2_chargeApart_a4 f x k4)), some (.inl (Int32.ofNat k4))] [.inr (.inr (.inl (66, 198 + 4 * k4))), .inl (c2_chargeApart_a4 f x k4)] (f, l) _
        refine fl_Tq.gfV (k := 2) (v := f (198 + 4 * k4) 2) rfl (fl_oks_ok ⟨(t2_kc2 (by omega)), True.intro, True.intro⟩) rfl rfl ?_
        refine fl_Tq.stp (pc' := 43) (lv' := [some (.inr (.inr (.inl (49, 181)))), some (.inl x), some (.inl (c2_chargeApart_a4 f x k4)), some (.inl (Int32.ofNat k4))]) (st' := [.inl (f (198 + 4 * k4) 2), .inl (c2_chargeApart_a4 f x k4)]) (m' := (f, l)) rfl rfl (fl_bo rfl) rfl ?_
        have e0 : (if ((x >>> ((Int32.ofNat k4) &&& 31)) &&& (1 : Int32)).toInt = 0 then -(f (198 + 4 * k4) 2) else f (198 + 4 * k4) 2) = f (198 + 4 * k4) 2 := by simp only [if_neg h1]
        rw [e0] at hJ
        exact hJ
    refine hj45 ?_
    show fl_Tq _ 45 43 [some (.inr (.inr (.inl (49, 181)))), some (.inl x), some (.inl (c2_chargeApart_a4 f x k4)), some (.inl (Int32.ofNat k4))] [.inl (if ((x >>> ((Int32.ofNat k4) &&& 31)) &&& (1 : Int32)).toInt = 0 then -(f (198 + 4 * k4) 2) else f (198 + 4 * k4) 2), .inl (c2_chargeApart_a4 f x k4)] (f, l) _
    refine fl_Tq.stp (pc' := 44) (lv' := [some (.inr (.inr (.inl (49, 181)))), some (.inl x), some (.inl (c2_chargeApart_a4 f x k4)), some (.inl (Int32.ofNat k4))]) (st' := [.inl ((c2_chargeApart_a4 f x k4) + (if ((x >>> ((Int32.ofNat k4) &&& 31)) &&& (1 : Int32)).toInt = 0 then -(f (198 + 4 * k4) 2) else f (198 + 4 * k4) 2))]) (m' := (f, l)) rfl rfl (fl_bo rfl) rfl ?_
    refine fl_Tq.stp (pc' := 45) (lv' := [some (.inr (.inr (.inl (49, 181)))), some (.inl x), some (.inl ((c2_chargeApart_a4 f x k4) + (if ((x >>> ((Int32.ofNat k4) &&& 31)) &&& (1 : Int32)).toInt = 0 then -(f (198 + 4 * k4) 2) else f (198 + 4 * k4) 2))), some (.inl (Int32.ofNat k4))]) (st' := []) (m' := (f, l)) rfl rfl (fl_bo rfl) rfl ?_
    refine fl_Tq.stp (pc' := 48) (lv' := [some (.inr (.inr (.inl (49, 181)))), some (.inl x), some (.inl ((c2_chargeApart_a4 f x k4) + (if ((x >>> ((Int32.ofNat k4) &&& 31)) &&& (1 : Int32)).toInt = 0 then -(f (198 + 4 * k4) 2) else f (198 + 4 * k4) 2))), some (.inl ((Int32.ofNat k4) + (1 : Int32)))]) (st' := []) (m' := (f, l)) rfl rfl (fl_bo rfl) rfl ?_
    refine fl_Tq.stp (pc' := 4) (lv' := [some (.inr (.inr (.inl (49, 181)))), some (.inl x), some (.inl ((c2_chargeApart_a4 f x k4) + (if ((x >>> ((Int32.ofNat k4) &&& 31)) &&& (1 : Int32)).toInt = 0 then -(f (198 + 4 * k4) 2) else f (198 + 4 * k4) 2))), some (.inl ((Int32.ofNat k4) + (1 : Int32)))]) (st' := []) (m' := (f, l)) rfl rfl (fl_bo rfl) rfl ?_
    have ea : c2_chargeApart_a4 f x (k4 + 1) = (c2_chargeApart_a4 f x k4) + (if ((x >>> ((Int32.ofNat k4) &&& 31)) &&& (1 : Int32)).toInt = 0 then -(f (198 + 4 * k4) 2) else f (198 + 4 * k4) 2) := by
      show ((c2_chargeApart_a4 f x k4) + (if ((x >>> ((Int32.ofNat k4) &&& 31)) &&& (1 : Int32)).toInt = 0 then -(f (198 + 4 * k4) 2) else f (198 + 4 * k4) 2)) = _
      rfl
    rw [ea, ← t2_k1] at hS
    exact hS
  refine t2_for (S := fun k4 => fl_Tq (pw_P L xs) 45 4 [some (.inr (.inr (.inl (49, 181)))), some (.inl x), some (.inl (c2_chargeApart_a4 f x k4)), some (.inl (Int32.ofNat k4))] [] (f, l) Q) hs4 ?_
  show fl_Tq (pw_P L xs) 45 4 [some (.inr (.inr (.inl (49, 181)))), some (.inl x), some (.inl (c2_chargeApart_a4 f x ((f 181 5).toInt.toNat))), some (.inl (Int32.ofNat ((f 181 5).toInt.toNat)))] [] (f, l) _
  refine fl_Tq.stp (pc' := 5) (lv' := [some (.inr (.inr (.inl (49, 181)))), some (.inl x), some (.inl (c2_chargeApart_a4 f x ((f 181 5).toInt.toNat))), some (.inl (Int32.ofNat ((f 181 5).toInt.toNat)))]) (st' := [.inl (Int32.ofNat ((f 181 5).toInt.toNat))]) (m' := (f, l)) rfl rfl (fl_bo rfl) rfl ?_
  refine fl_Tq.stp (pc' := 6) (lv' := [some (.inr (.inr (.inl (49, 181)))), some (.inl x), some (.inl (c2_chargeApart_a4 f x ((f 181 5).toInt.toNat))), some (.inl (Int32.ofNat ((f 181 5).toInt.toNat)))]) (st' := [.inr (.inr (.inl (49, 181))), .inl (Int32.ofNat ((f 181 5).toInt.toNat))]) (m' := (f, l)) rfl rfl (fl_bo rfl) rfl ?_
  refine fl_Tq.gfV (k := 5) (v := f 181 5) rfl (fl_bo rfl) rfl rfl ?_
  refine fl_Tq.jt rfl (fl_bo rfl) (c2_ge_t (t2_ln (t2_nn hc.1))) rfl ?_
  refine fl_Tq.stp (pc' := 52) (lv' := [some (.inr (.inr (.inl (49, 181)))), some (.inl x), some (.inl (c2_chargeApart_a4 f x ((f 181 5).toInt.toNat))), some (.inl (Int32.ofNat ((f 181 5).toInt.toNat)))]) (st' := [.inl (c2_chargeApart_a4 f x ((f 181 5).toInt.toNat))]) (m' := (f, l)) rfl rfl (fl_bo rfl) rfl ?_
  exact fl_Tq.ret rfl rfl rfl k
noncomputable def c2_orderedBits_j14_0 (f : t2_F)  : Int32 := if (f 181 7).toInt = (1 : Int32).toInt then (3 : Int32) else (5 : Int32)
noncomputable def c2_orderedBits_v (f : t2_F) : Int32 := if (f 181 7).toInt = 0 then (0 : Int32) else c2_orderedBits_j14_0 f
theorem c2_orderedBits_q {L : Nat} {xs : Nat → Int32} {f : t2_F} {l : t2_L} {Q : Option fl_V → fl_M → Prop}   (k : Q (some (.inl (c2_orderedBits_v f))) (f, l)) : fl_Tq (pw_P L xs) 52 0 (fl_args (am_mxl (pw_P L xs) 52) [.inr (.inr (.inl (49, 181)))]) [] (f, l) Q := by
  refine fl_Tq.stp (pc' := 1) (lv' := [some (.inr (.inr (.inl (49, 181))))]) (st' := [.inr (.inr (.inl (49, 181)))]) (m' := (f, l)) rfl rfl (fl_bo rfl) rfl ?_
  refine fl_Tq.gfV (k := 7) (v := f 181 7) rfl (fl_bo rfl) rfl rfl ?_
  by_cases h1 : (f 181 7).toInt = 0
  · refine fl_Tq.zf rfl (fl_bo rfl) (c1_ne_f h1) rfl ?_
    refine fl_Tq.cI (c := (0 : Int32)) rfl (by decide +kernel) (fl_bo rfl) ?_
    refine fl_Tq.ret rfl rfl rfl ?_
    unfold c2_orderedBits_v at k
    simp only [if_pos h1] at k
    exact k
  · refine fl_Tq.zt rfl (fl_bo rfl) (c1_ne_t h1) rfl ?_
    refine fl_Tq.stp (pc' := 10) (lv' := [some (.inr (.inr (.inl (49, 181))))]) (st' := [.inr (.inr (.inl (49, 181)))]) (m' := (f, l)) rfl rfl (fl_bo rfl) rfl ?_
    refine fl_Tq.gfV (k := 7) (v := f 181 7) rfl (fl_bo rfl) rfl rfl ?_
    refine fl_Tq.cI (c := (1 : Int32)) rfl (by decide +kernel) (fl_bo rfl) ?_
    have hj46 : fl_Tq (pw_P L xs) 52 22 [some (.inr (.inr (.inl (49, 181))))] [.inl (c2_orderedBits_j14_0 f)] (f, l) Q → fl_Tq (pw_P L xs) 52 14 [some (.inr (.inr (.inl (49, 181))))] [.inl (1 : Int32), .inl (f 181 7)] (f, l) Q := by
      intro hJ
      by_cases h2 : (f 181 7).toInt = (1 : Int32).toInt
      · refine fl_Tq.jf rfl (fl_bo rfl) (c2_ne_f h2) rfl ?_
        refine fl_Tq.cI (c := (3 : Int32)) rfl (by decide +kernel) (fl_bo rfl) ?_
        refine fl_Tq.stp (pc' := 22) (lv' := [some (.inr (.inr (.inl (49, 181))))]) (st' := [.inl (3 : Int32)]) (m' := (f, l)) rfl rfl (fl_bo rfl) rfl ?_
        have e0 : (c2_orderedBits_j14_0 f) = (3 : Int32) := by simp only [c2_orderedBits_j14_0, if_pos h2]
        rw [e0] at hJ
        exact hJ
      · refine fl_Tq.jt rfl (fl_bo rfl) (c2_ne_t h2) rfl ?_
        refine fl_Tq.cI (c := (5 : Int32)) rfl (by decide +kernel) (fl_bo rfl) ?_
        have e0 : (c2_orderedBits_j14_0 f) = (5 : Int32) := by simp only [c2_orderedBits_j14_0, if_neg h2]
        rw [e0] at hJ
        exact hJ
    refine hj46 ?_
    show fl_Tq _ 52 22 [some (.inr (.inr (.inl (49, 181))))] [.inl (c2_orderedBits_j14_0 f)] (f, l) _
    refine fl_Tq.ret rfl rfl rfl ?_
    unfold c2_orderedBits_v at k
    simp only [if_neg h1] at k
    exact k
noncomputable def c2_actualBits_a7 (f : t2_F) : Nat → Int32
  | 0 => c2_orderedBits_v f
  | k7 + 1 => if (f 185 k7).toInt = (1 : Int32).toInt then (c2_actualBits_a7 f k7) ||| ((1 : Int32) <<< ((Int32.ofNat k7) &&& 31)) else (if (f 185 k7).toInt = (2 : Int32).toInt then (c2_actualBits_a7 f k7) &&& (((1 : Int32) <<< ((Int32.ofNat k7) &&& 31)) ^^^ (-1 : Int32)) else c2_actualBits_a7 f k7)
noncomputable def c2_actualBits_v (f : t2_F) : Int32 := c2_actualBits_a7 f 3
theorem c2_actualBits_q {L : Nat} {xs : Nat → Int32} {f : t2_F} {l : t2_L} {Q : Option fl_V → fl_M → Prop}   (k : Q (some (.inl (c2_actualBits_v f))) (f, l)) : fl_Tq (pw_P L xs) 53 0 (fl_args (am_mxl (pw_P L xs) 53) [.inr (.inr (.inl (49, 181)))]) [] (f, l) Q := by
  refine fl_Tq.stp (pc' := 1) (lv' := [some (.inr (.inr (.inl (49, 181)))), none, none]) (st' := [.inr (.inr (.inl (49, 181)))]) (m' := (f, l)) rfl rfl (fl_bo rfl) rfl ?_
  refine fl_Tq.cal rfl rfl (fl_bo rfl) rfl ?_
  refine c2_orderedBits_q  ?_
  show fl_Tq _ 53 4 [some (.inr (.inr (.inl (49, 181)))), none, none] [.inl (c2_orderedBits_v f)] (f, l) _
  refine fl_Tq.stp (pc' := 5) (lv' := [some (.inr (.inr (.inl (49, 181)))), some (.inl (c2_orderedBits_v f)), none]) (st' := []) (m' := (f, l)) rfl rfl (fl_bo rfl) rfl ?_
  refine fl_Tq.cI (c := (0 : Int32)) rfl (by decide +kernel) (fl_bo rfl) ?_
  refine fl_Tq.stp (pc' := 7) (lv' := [some (.inr (.inr (.inl (49, 181)))), some (.inl (c2_orderedBits_v f)), some (.inl (0 : Int32))]) (st' := []) (m' := (f, l)) rfl rfl (fl_bo rfl) rfl ?_
  have hs7 : ∀ k7 : Nat, k7 < 3 → fl_Tq (pw_P L xs) 53 7 [some (.inr (.inr (.inl (49, 181)))), some (.inl (c2_actualBits_a7 f (k7 + 1))), some (.inl (Int32.ofNat (k7 + 1)))] [] (f, l) Q → fl_Tq (pw_P L xs) 53 7 [some (.inr (.inr (.inl (49, 181)))), some (.inl (c2_actualBits_a7 f k7)), some (.inl (Int32.ofNat k7))] [] (f, l) Q := by
    intro k7 hk7 hS
    refine fl_Tq.stp (pc' := 8) (lv' := [some (.inr (.inr (.inl (49, 181)))), some (.inl (c2_actualBits_a7 f k7)), some (.inl (Int32.ofNat k7))]) (st' := [.inl (Int32.ofNat k7)]) (m' := (f, l)) rfl rfl (fl_bo rfl) rfl ?_
    refine fl_Tq.stp (pc' := 9) (lv' := [some (.inr (.inr (.inl (49, 181)))), some (.inl (c2_actualBits_a7 f k7)), some (.inl (Int32.ofNat k7))]) (st' := [.inr (.inr (.inl (49, 181))), .inl (Int32.ofNat k7)]) (m' := (f, l)) rfl rfl (fl_bo rfl) rfl ?_
    refine fl_Tq.stp (pc' := 12) (lv' := [some (.inr (.inr (.inl (49, 181)))), some (.inl (c2_actualBits_a7 f k7)), some (.inl (Int32.ofNat k7))]) (st' := [.inr (.inr (.inl (51, 183))), .inl (Int32.ofNat k7)]) (m' := (f, l)) rfl rfl (fl_bo rfl) rfl ?_
    refine fl_Tq.stp (pc' := 15) (lv' := [some (.inr (.inr (.inl (49, 181)))), some (.inl (c2_actualBits_a7 f k7)), some (.inl (Int32.ofNat k7))]) (st' := [.inr (.inr (.inl (53, 185))), .inl (Int32.ofNat k7)]) (m' := (f, l)) rfl rfl (fl_bo rfl) rfl ?_
    refine fl_Tq.stp (pc' := 16) (lv' := [some (.inr (.inr (.inl (49, 181)))), some (.inl (c2_actualBits_a7 f k7)), some (.inl (Int32.ofNat k7))]) (st' := [.inl (Int32.ofNat 3), .inl (Int32.ofNat k7)]) (m' := (f, l)) rfl rfl (fl_bo rfl) rfl ?_
    refine fl_Tq.jf rfl (fl_bo rfl) (c2_ge_f (t2_lk hk7 (by decide +kernel))) rfl ?_
    refine fl_Tq.stp (pc' := 20) (lv' := [some (.inr (.inr (.inl (49, 181)))), some (.inl (c2_actualBits_a7 f k7)), some (.inl (Int32.ofNat k7))]) (st' := [.inr (.inr (.inl (49, 181)))]) (m' := (f, l)) rfl rfl (fl_bo rfl) rfl ?_
    refine fl_Tq.stp (pc' := 23) (lv' := [some (.inr (.inr (.inl (49, 181)))), some (.inl (c2_actualBits_a7 f k7)), some (.inl (Int32.ofNat k7))]) (st' := [.inr (.inr (.inl (51, 183)))]) (m' := (f, l)) rfl rfl (fl_bo rfl) rfl ?_
    refine fl_Tq.stp (pc' := 26) (lv' := [some (.inr (.inr (.inl (49, 181)))), some (.inl (c2_actualBits_a7 f k7)), some (.inl (Int32.ofNat k7))]) (st' := [.inr (.inr (.inl (53, 185)))]) (m' := (f, l)) rfl rfl (fl_bo rfl) rfl ?_
    refine fl_Tq.stp (pc' := 27) (lv' := [some (.inr (.inr (.inl (49, 181)))), some (.inl (c2_actualBits_a7 f k7)), some (.inl (Int32.ofNat k7))]) (st' := [.inl (Int32.ofNat k7), .inr (.inr (.inl (53, 185)))]) (m' := (f, l)) rfl rfl (fl_bo rfl) rfl ?_
    refine fl_Tq.ldV (p := 185) (τ := 53) (n := 3) (z := (0, 0, 0)) (k := k7) (v := f 185 k7) rfl (fl_bo rfl) rfl (at_ofN (by omega)) (by omega) rfl ?_
    refine fl_Tq.cI (c := (1 : Int32)) rfl (by decide +kernel) (fl_bo rfl) ?_
    have hj47 : fl_Tq (pw_P L xs) 53 62 [some (.inr (.inr (.inl (49, 181)))), some (.inl (if (f 185 k7).toInt = (1 : Int32).toInt then (c2_actualBits_a7 f k7) ||| ((1 : Int32) <<< ((Int32.ofNat k7) &&& 31)) else (if (f 185 k7).toInt = (2 : Int32).toInt then (c2_actualBits_a7 f k7) &&& (((1 : Int32) <<< ((Int32.ofNat k7) &&& 31)) ^^^ (-1 : Int32)) else c2_actualBits_a7 f k7))), some (.inl (Int32.ofNat k7))] [] (f, l) Q → fl_Tq (pw_P L xs) 53 29 [some (.inr (.inr (.inl (49, 181)))), some (.inl (c2_actualBits_a7 f k7)), some (.inl (Int32.ofNat k7))] [.inl (1 : Int32), .inl (f 185 k7)] (f, l) Q := by
      intro hJ
      by_cases h1 : (f 185 k7).toInt = (1 : Int32).toInt
      · refine fl_Tq.jf rfl (fl_bo rfl) (c2_ne_f h1) rfl ?_
        refine fl_Tq.stp (pc' := 33) (lv' := [some (.inr (.inr (.inl (49, 181)))), some (.inl (c2_actualBits_a7 f k7)), some (.inl (Int32.ofNat k7))]) (st' := [.inl (c2_actualBits_a7 f k7)]) (m' := (f, l)) rfl rfl (fl_bo rfl) rfl ?_
        refine fl_Tq.cI (c := (1 : Int32)) rfl (by decide +kernel) (fl_bo rfl) ?_
        refine fl_Tq.stp (pc' := 35) (lv' := [some (.inr (.inr (.inl (49, 181)))), some (.inl (c2_actualBits_a7 f k7)), some (.inl (Int32.ofNat k7))]) (st' := [.inl (Int32.ofNat k7), .inl (1 : Int32), .inl (c2_actualBits_a7 f k7)]) (m' := (f, l)) rfl rfl (fl_bo rfl) rfl ?_
        refine fl_Tq.stp (pc' := 36) (lv' := [some (.inr (.inr (.inl (49, 181)))), some (.inl (c2_actualBits_a7 f k7)), some (.inl (Int32.ofNat k7))]) (st' := [.inl ((1 : Int32) <<< ((Int32.ofNat k7) &&& 31)), .inl (c2_actualBits_a7 f k7)]) (m' := (f, l)) rfl rfl (fl_bo rfl) rfl ?_
        refine fl_Tq.stp (pc' := 37) (lv' := [some (.inr (.inr (.inl (49, 181)))), some (.inl (c2_actualBits_a7 f k7)), some (.inl (Int32.ofNat k7))]) (st' := [.inl ((c2_actualBits_a7 f k7) ||| ((1 : Int32) <<< ((Int32.ofNat k7) &&& 31)))]) (m' := (f, l)) rfl rfl (fl_bo rfl) rfl ?_
        refine fl_Tq.stp (pc' := 38) (lv' := [some (.inr (.inr (.inl (49, 181)))), some (.inl ((c2_actualBits_a7 f k7) ||| ((1 : Int32) <<< ((Int32.ofNat k7) &&& 31)))), some (.inl (Int32.ofNat k7))]) (st' := []) (m' := (f, l)) rfl rfl (fl_bo rfl) rfl ?_
        refine fl_Tq.stp (pc' := 62) (lv' := [some (.inr (.inr (.inl (49, 181)))), some (.inl ((c2_actualBits_a7 f k7) ||| ((1 : Int32) <<< ((Int32.ofNat k7) &&& 31)))), some (.inl (Int32.ofNat k7))]) (st' := []) (m' := (f, l)) rfl rfl (fl_bo rfl) rfl ?_
        have e0 : (if (f 185 k7).toInt = (1 : Int32).toInt then (c2_actualBits_a7 f k7) ||| ((1 : Int32) <<< ((Int32.ofNat k7) &&& 31)) else (if (f 185 k7).toInt = (2 : Int32).toInt then (c2_actualBits_a7 f k7) &&& (((1 : Int32) <<< ((Int32.ofNat k7) &&& 31)) ^^^ (-1 : Int32)) else c2_actualBits_a7 f k7)) = (c2_actualBits_a7 f k7) ||| ((1 : Int32) <<< ((Int32.ofNat k7) &&& 31)) := by simp only [if_pos h1]
        rw [e0] at hJ
        exact hJ
      · refine fl_Tq.jt rfl (fl_bo rfl) (c2_ne_t h1) rfl ?_
        refine fl_Tq.stp (pc' := 42) (lv' := [some (.inr (.inr (.inl (49, 181)))), some (.inl (c2_actualBits_a7 f k7)), some (.inl (Int32.ofNat k7))]) (st' := [.inr (.inr (.inl (49, 181)))]) (m' := (f, l)) rfl rfl (fl_bo rfl) rfl ?_
        refine fl_Tq.stp (pc' := 45) (lv' := [some (.inr (.inr (.inl (49, 181)))), some (.inl (c2_actualBits_a7 f k7)), some (.inl (Int32.ofNat k7))]) (st' := [.inr (.inr (.inl (51, 183)))]) (m' := (f, l)) rfl rfl (fl_bo rfl) rfl ?_
        refine fl_Tq.stp (pc' := 48) (lv' := [some (.inr (.inr (.inl (49, 181)))), some (.inl (c2_actualBits_a7 f k7)), some (.inl (Int32.ofNat k7))]) (st' := [.inr (.inr (.inl (53, 185)))]) (m' := (f, l)) rfl rfl (fl_bo rfl) rfl ?_
        refine fl_Tq.stp (pc' := 49) (lv' := [some (.inr (.inr (.inl (49, 181)))), some (.inl (c2_actualBits_a7 f k7)), some (.inl (Int32.ofNat k7))]) (st' := [.inl (Int32.ofNat k7), .inr (.inr (.inl (53, 185)))]) (m' := (f, l)) rfl rfl (fl_bo rfl) rfl ?_
        refine fl_Tq.ldV (p := 185) (τ := 53) (n := 3) (z := (0, 0, 0)) (k := k7) (v := f 185 k7) rfl (fl_bo rfl) rfl (at_ofN (by omega)) (by omega) rfl ?_
        refine fl_Tq.cI (c := (2 : Int32)) rfl (by decide +kernel) (fl_bo rfl) ?_
        by_cases h2 : (f 185 k7).toInt = (2 : Int32).toInt
        · refine fl_Tq.jf rfl (fl_bo rfl) (c2_ne_f h2) rfl ?_
          refine fl_Tq.stp (pc' := 55) (lv' := [some (.inr (.inr (.inl (49, 181)))), some (.inl (c2_actualBits_a7 f k7)), some (.inl (Int32.ofNat k7))]) (st' := [.inl (c2_actualBits_a7 f k7)]) (m' := (f, l)) rfl rfl (fl_bo rfl) rfl ?_
          refine fl_Tq.cI (c := (1 : Int32)) rfl (by decide +kernel) (fl_bo rfl) ?_
          refine fl_Tq.stp (pc' := 57) (lv' := [some (.inr (.inr (.inl (49, 181)))), some (.inl (c2_actualBits_a7 f k7)), some (.inl (Int32.ofNat k7))]) (st' := [.inl (Int32.ofNat k7), .inl (1 : Int32), .inl (c2_actualBits_a7 f k7)]) (m' := (f, l)) rfl rfl (fl_bo rfl) rfl ?_
          refine fl_Tq.stp (pc' := 58) (lv' := [some (.inr (.inr (.inl (49, 181)))), some (.inl (c2_actualBits_a7 f k7)), some (.inl (Int32.ofNat k7))]) (st' := [.inl ((1 : Int32) <<< ((Int32.ofNat k7) &&& 31)), .inl (c2_actualBits_a7 f k7)]) (m' := (f, l)) rfl rfl (fl_bo rfl) rfl ?_
          refine fl_Tq.cI (c := (-1 : Int32)) rfl (by decide +kernel) (fl_bo rfl) ?_
          refine fl_Tq.stp (pc' := 60) (lv' := [some (.inr (.inr (.inl (49, 181)))), some (.inl (c2_actualBits_a7 f k7)), some (.inl (Int32.ofNat k7))]) (st' := [.inl (((1 : Int32) <<< ((Int32.ofNat k7) &&& 31)) ^^^ (-1 : Int32)), .inl (c2_actualBits_a7 f k7)]) (m' := (f, l)) rfl rfl (fl_bo rfl) rfl ?_
          refine fl_Tq.stp (pc' := 61) (lv' := [some (.inr (.inr (.inl (49, 181)))), some (.inl (c2_actualBits_a7 f k7)), some (.inl (Int32.ofNat k7))]) (st' := [.inl ((c2_actualBits_a7 f k7) &&& (((1 : Int32) <<< ((Int32.ofNat k7) &&& 31)) ^^^ (-1 : Int32)))]) (m' := (f, l)) rfl rfl (fl_bo rfl) rfl ?_
          refine fl_Tq.stp (pc' := 62) (lv' := [some (.inr (.inr (.inl (49, 181)))), some (.inl ((c2_actualBits_a7 f k7) &&& (((1 : Int32) <<< ((Int32.ofNat k7) &&& 31)) ^^^ (-1 : Int32)))), some (.inl (Int32.ofNat k7))]) (st' := []) (m' := (f, l)) rfl rfl (fl_bo rfl) rfl ?_
          have e0 : (if (f 185 k7).toInt = (1 : Int32).toInt then (c2_actualBits_a7 f k7) ||| ((1 : Int32) <<< ((Int32.ofNat k7) &&& 31)) else (if (f 185 k7).toInt = (2 : Int32).toInt then (c2_actualBits_a7 f k7) &&& (((1 : Int32) <<< ((Int32.ofNat k7) &&& 31)) ^^^ (-1 : Int32)) else c2_actualBits_a7 f k7)) = (c2_actualBits_a7 f k7) &&& (((1 : Int32) <<< ((Int32.ofNat k7) &&& 31)) ^^^ (-1 : Int32)) := by simp only [if_neg h1, if_pos h2]
          rw [e0] at hJ
          exact hJ
        · refine fl_Tq.jt rfl (fl_bo rfl) (c2_ne_t h2) rfl ?_
          have e0 : (if (f 185 k7).toInt = (1 : Int32).toInt then (c2_actualBits_a7 f k7) ||| ((1 : Int32) <<< ((Int32.ofNat k7) &&& 31)) else (if (f 185 k7).toInt = (2 : Int32).toInt then (c2_actualBits_a7 f k7) &&& (((1 : Int32) <<< ((Int32.ofNat k7) &&& 31)) ^^^ (-1 : Int32)) else c2_actualBits_a7 f k7)) = c2_actualBits_a7 f k7 := by simp only [if_neg h1, if_neg h2]
          rw [e0] at hJ
          exact hJ
    refine hj47 ?_
    show fl_Tq _ 53 62 [some (.inr (.inr (.inl (49, 181)))), some (.inl (if (f 185 k7).toInt = (1 : Int32).toInt then (c2_actualBits_a7 f k7) ||| ((1 : Int32) <<< ((Int32.ofNat k7) &&& 31)) else (if (f 185 k7).toInt = (2 : Int32).toInt then (c2_actualBits_a7 f k7) &&& (((1 : Int32) <<< ((Int32.ofNat k7) &&& 31)) ^^^ (-1 : Int32)) else c2_actualBits_a7 f k7))), some (.inl (Int32.ofNat k7))] [] (f, l) _
    refine fl_Tq.stp (pc' := 65) (lv' := [some (.inr (.inr (.inl (49, 181)))), some (.inl (if (f 185 k7).toInt = (1 : Int32).toInt then (c2_actualBits_a7 f k7) ||| ((1 : Int32) <<< ((Int32.ofNat k7) &&& 31)) else (if (f 185 k7).toInt = (2 : Int32).toInt then (c2_actualBits_a7 f k7) &&& (((1 : Int32) <<< ((Int32.ofNat k7) &&& 31)) ^^^ (-1 : Int32)) else c2_actualBits_a7 f k7))), some (.inl ((Int32.ofNat k7) + (1 : Int32)))]) (st' := []) (m' := (f, l)) rfl rfl (fl_bo rfl) rfl ?_
    refine fl_Tq.stp (pc' := 7) (lv' := [some (.inr (.inr (.inl (49, 181)))), some (.inl (if (f 185 k7).toInt = (1 : Int32).toInt then (c2_actualBits_a7 f k7) ||| ((1 : Int32) <<< ((Int32.ofNat k7) &&& 31)) else (if (f 185 k7).toInt = (2 : Int32).toInt then (c2_actualBits_a7 f k7) &&& (((1 : Int32) <<< ((Int32.ofNat k7) &&& 31)) ^^^ (-1 : Int32)) else c2_actualBits_a7 f k7))), some (.inl ((Int32.ofNat k7) + (1 : Int32)))]) (st' := []) (m' := (f, l)) rfl rfl (fl_bo rfl) rfl ?_
    have ea : c2_actualBits_a7 f (k7 + 1) = if (f 185 k7).toInt = (1 : Int32).toInt then (c2_actualBits_a7 f k7) ||| ((1 : Int32) <<< ((Int32.ofNat k7) &&& 31)) else (if (f 185 k7).toInt = (2 : Int32).toInt then (c2_actualBits_a7 f k7) &&& (((1 : Int32) <<< ((Int32.ofNat k7) &&& 31)) ^^^ (-1 : Int32)) else c2_actualBits_a7 f k7) := by
      show (if (f 185 k7).toInt = (1 : Int32).toInt then (c2_actualBits_a7 f k7) ||| ((1 : Int32) <<< ((Int32.ofNat k7) &&& 31)) else (if (f 185 k7).toInt = (2 : Int32).toInt then (c2_actualBits_a7 f k7) &&& (((1 : Int32) <<< ((Int32.ofNat k7) &&& 31)) ^^^ (-1 : Int32)) else c2_actualBits_a7 f k7)) = _
      rfl
    rw [ea, ← t2_k1] at hS
    exact hS
  refine t2_for (S := fun k7 => fl_Tq (pw_P L xs) 53 7 [some (.inr (.inr (.inl (49, 181)))), some (.inl (c2_actualBits_a7 f k7)), some (.inl (Int32.ofNat k7))] [] (f, l) Q) hs7 ?_
  show fl_Tq (pw_P L xs) 53 7 [some (.inr (.inr (.inl (49, 181)))), some (.inl (c2_actualBits_a7 f 3)), some (.inl (Int32.ofNat 3))] [] (f, l) _
  refine fl_Tq.stp (pc' := 8) (lv' := [some (.inr (.inr (.inl (49, 181)))), some (.inl (c2_actualBits_a7 f 3)), some (.inl (Int32.ofNat 3))]) (st' := [.inl (Int32.ofNat 3)]) (m' := (f, l)) rfl rfl (fl_bo rfl) rfl ?_
  refine fl_Tq.stp (pc' := 9) (lv' := [some (.inr (.inr (.inl (49, 181)))), some (.inl (c2_actualBits_a7 f 3)), some (.inl (Int32.ofNat 3))]) (st' := [.inr (.inr (.inl (49, 181))), .inl (Int32.ofNat 3)]) (m' := (f, l)) rfl rfl (fl_bo rfl) rfl ?_
  refine fl_Tq.stp (pc' := 12) (lv' := [some (.inr (.inr (.inl (49, 181)))), some (.inl (c2_actualBits_a7 f 3)), some (.inl (Int32.ofNat 3))]) (st' := [.inr (.inr (.inl (51, 183))), .inl (Int32.ofNat 3)]) (m' := (f, l)) rfl rfl (fl_bo rfl) rfl ?_
  refine fl_Tq.stp (pc' := 15) (lv' := [some (.inr (.inr (.inl (49, 181)))), some (.inl (c2_actualBits_a7 f 3)), some (.inl (Int32.ofNat 3))]) (st' := [.inr (.inr (.inl (53, 185))), .inl (Int32.ofNat 3)]) (m' := (f, l)) rfl rfl (fl_bo rfl) rfl ?_
  refine fl_Tq.stp (pc' := 16) (lv' := [some (.inr (.inr (.inl (49, 181)))), some (.inl (c2_actualBits_a7 f 3)), some (.inl (Int32.ofNat 3))]) (st' := [.inl (Int32.ofNat 3), .inl (Int32.ofNat 3)]) (m' := (f, l)) rfl rfl (fl_bo rfl) rfl ?_
  refine fl_Tq.jt rfl (fl_bo rfl) (c2_ge_t (t2_ln (by decide +kernel))) rfl ?_
  refine fl_Tq.stp (pc' := 69) (lv' := [some (.inr (.inr (.inl (49, 181)))), some (.inl (c2_actualBits_a7 f 3)), some (.inl (Int32.ofNat 3))]) (st' := [.inl (c2_actualBits_a7 f 3)]) (m' := (f, l)) rfl rfl (fl_bo rfl) rfl ?_
  exact fl_Tq.ret rfl rfl rfl k
noncomputable def c2_areActual_v (f : t2_F) (x : Int32) : Int32 := if ((c2_actualBits_v f) &&& x).toInt = x.toInt then (1 : Int32) else (0 : Int32)
theorem c2_areActual_q {L : Nat} {xs : Nat → Int32} {f : t2_F} {l : t2_L} {Q : Option fl_V → fl_M → Prop} {x : Int32}  (k : Q (some (.inl (c2_areActual_v f x))) (f, l)) : fl_Tq (pw_P L xs) 54 0 (fl_args (am_mxl (pw_P L xs) 54) [.inr (.inr (.inl (49, 181))), .inl x]) [] (f, l) Q := by
  refine fl_Tq.stp (pc' := 1) (lv' := [some (.inr (.inr (.inl (49, 181)))), some (.inl x)]) (st' := [.inr (.inr (.inl (49, 181)))]) (m' := (f, l)) rfl rfl (fl_bo rfl) rfl ?_
  refine fl_Tq.cal rfl rfl (fl_bo rfl) rfl ?_
  refine c2_actualBits_q  ?_
  show fl_Tq _ 54 4 [some (.inr (.inr (.inl (49, 181)))), some (.inl x)] [.inl (c2_actualBits_v f)] (f, l) _
  refine fl_Tq.stp (pc' := 5) (lv' := [some (.inr (.inr (.inl (49, 181)))), some (.inl x)]) (st' := [.inl x, .inl (c2_actualBits_v f)]) (m' := (f, l)) rfl rfl (fl_bo rfl) rfl ?_
  refine fl_Tq.stp (pc' := 6) (lv' := [some (.inr (.inr (.inl (49, 181)))), some (.inl x)]) (st' := [.inl ((c2_actualBits_v f) &&& x)]) (m' := (f, l)) rfl rfl (fl_bo rfl) rfl ?_
  refine fl_Tq.stp (pc' := 7) (lv' := [some (.inr (.inr (.inl (49, 181)))), some (.inl x)]) (st' := [.inl x, .inl ((c2_actualBits_v f) &&& x)]) (m' := (f, l)) rfl rfl (fl_bo rfl) rfl ?_
  by_cases h1 : ((c2_actualBits_v f) &&& x).toInt = x.toInt
  · refine fl_Tq.jf rfl (fl_bo rfl) (c2_ne_f h1) rfl ?_
    refine fl_Tq.cI (c := (1 : Int32)) rfl (by decide +kernel) (fl_bo rfl) ?_
    refine fl_Tq.stp (pc' := 15) (lv' := [some (.inr (.inr (.inl (49, 181)))), some (.inl x)]) (st' := [.inl (1 : Int32)]) (m' := (f, l)) rfl rfl (fl_bo rfl) rfl ?_
    refine fl_Tq.ret rfl rfl rfl ?_
    unfold c2_areActual_v at k
    simp only [if_pos h1] at k
    exact k
  · refine fl_Tq.jt rfl (fl_bo rfl) (c2_ne_t h1) rfl ?_
    refine fl_Tq.cI (c := (0 : Int32)) rfl (by decide +kernel) (fl_bo rfl) ?_
    refine fl_Tq.ret rfl rfl rfl ?_
    unfold c2_areActual_v at k
    simp only [if_neg h1] at k
    exact k
noncomputable def c2_spreadOf_a10 (f : t2_F) (y : Int32) : Nat → Int32 × Int32
  | 0 => ((1000 : Int32), (0 : Int32))
  | k10 + 1 => (t2_min_v ((c2_spreadOf_a10 f y k10).1) (f (198 + 4 * k10) 3), t2_max_v ((c2_spreadOf_a10 f y k10).2) (f (198 + 4 * k10) 3))
noncomputable def c2_spreadOf_v (f : t2_F) (y : Int32) : Int32 := ((c2_spreadOf_a10 f y y.toInt.toNat).2) - ((c2_spreadOf_a10 f y y.toInt.toNat).1)
theorem c2_spreadOf_q {L : Nat} {xs : Nat → Int32} {f : t2_F} {l : t2_L} {Q : Option fl_V → fl_M → Prop} {y : Int32} (hy : 0 ≤ y.toInt ∧ y.toInt ≤ 16) (k : Q (some (.inl (c2_spreadOf_v f y))) (f, l)) : fl_Tq (pw_P L xs) 41 0 (fl_args (am_mxl (pw_P L xs) 41) [.inr (.inr (.inl (49, 181))), .inl (0 : Int32), .inl y]) [] (f, l) Q := by
  refine fl_Tq.cS (c := (1000 : Int32)) rfl (by decide +kernel) (fl_bo rfl) ?_
  refine fl_Tq.stp (pc' := 4) (lv' := [some (.inr (.inr (.inl (49, 181)))), some (.inl (0 : Int32)), some (.inl y), some (.inl (1000 : Int32)), none, none]) (st' := []) (m' := (f, l)) rfl rfl (fl_bo rfl) rfl ?_
  refine fl_Tq.cI (c := (0 : Int32)) rfl (by decide +kernel) (fl_bo rfl) ?_
  refine fl_Tq.stp (pc' := 7) (lv' := [some (.inr (.inr (.inl (49, 181)))), some (.inl (0 : Int32)), some (.inl y), some (.inl (1000 : Int32)), some (.inl (0 : Int32)), none]) (st' := []) (m' := (f, l)) rfl rfl (fl_bo rfl) rfl ?_
  refine fl_Tq.stp (pc' := 8) (lv' := [some (.inr (.inr (.inl (49, 181)))), some (.inl (0 : Int32)), some (.inl y), some (.inl (1000 : Int32)), some (.inl (0 : Int32)), none]) (st' := [.inl (0 : Int32)]) (m' := (f, l)) rfl rfl (fl_bo rfl) rfl ?_
  refine fl_Tq.stp (pc' := 10) (lv' := [some (.inr (.inr (.inl (49, 181)))), some (.inl (0 : Int32)), some (.inl y), some (.inl (1000 : Int32)), some (.inl (0 : Int32)), some (.inl (0 : Int32))]) (st' := []) (m' := (f, l)) rfl rfl (fl_bo rfl) rfl ?_
  have hs10 : ∀ k10 : Nat, k10 < y.toInt.toNat → fl_Tq (pw_P L xs) 41 10 [some (.inr (.inr (.inl (49, 181)))), some (.inl (0 : Int32)), some (.inl y), some (.inl ((c2_spreadOf_a10 f y (k10 + 1)).1)), some (.inl ((c2_spreadOf_a10 f y (k10 + 1)).2)), some (.inl (Int32.ofNat (k10 + 1)))] [] (f, l) Q → fl_Tq (pw_P L xs) 41 10 [some (.inr (.inr (.inl (49, 181)))), some (.inl (0 : Int32)), some (.inl y), some (.inl ((c2_spreadOf_a10 f y k10).1)), some (.inl ((c2_spreadOf_a10 f y k10).2)), some (.inl (Int32.ofNat k10))] [] (f, l) Q := by
    intro k10 hk10 hS
    refine fl_Tq.stp (pc' := 12) (lv' := [some (.inr (.inr (.inl (49, 181)))), some (.inl (0 : Int32)), some (.inl y), some (.inl ((c2_spreadOf_a10 f y k10).1)), some (.inl ((c2_spreadOf_a10 f y k10).2)), some (.inl (Int32.ofNat k10))]) (st' := [.inl (Int32.ofNat k10)]) (m' := (f, l)) rfl rfl (fl_bo rfl) rfl ?_
    refine fl_Tq.stp (pc' := 13) (lv' := [some (.inr (.inr (.inl (49, 181)))), some (.inl (0 : Int32)), some (.inl y), some (.inl ((c2_spreadOf_a10 f y k10).1)), some (.inl ((c2_spreadOf_a10 f y k10).2)), some (.inl (Int32.ofNat k10))]) (st' := [.inl y, .inl (Int32.ofNat k10)]) (m' := (f, l)) rfl rfl (fl_bo rfl) rfl ?_
    refine fl_Tq.jf rfl (fl_bo rfl) (c2_ge_f (t2_lk hk10 (t2_nn hy.1))) rfl ?_
    refine fl_Tq.stp (pc' := 17) (lv' := [some (.inr (.inr (.inl (49, 181)))), some (.inl (0 : Int32)), some (.inl y), some (.inl ((c2_spreadOf_a10 f y k10).1)), some (.inl ((c2_spreadOf_a10 f y k10).2)), some (.inl (Int32.ofNat k10))]) (st' := [.inl ((c2_spreadOf_a10 f y k10).1)]) (m' := (f, l)) rfl rfl (fl_bo rfl) rfl ?_
    refine fl_Tq.stp (pc' := 18) (lv' := [some (.inr (.inr (.inl (49, 181)))), some (.inl (0 : Int32)), some (.inl y), some (.inl ((c2_spreadOf_a10 f y k10).1)), some (.inl ((c2_spreadOf_a10 f y k10).2)), some (.inl (Int32.ofNat k10))]) (st' := [.inr (.inr (.inl (49, 181))), .inl ((c2_spreadOf_a10 f y k10).1)]) (m' := (f, l)) rfl rfl (fl_bo rfl) rfl ?_
    refine fl_Tq.stp (pc' := 21) (lv' := [some (.inr (.inr (.inl (49, 181)))), some (.inl (0 : Int32)), some (.inl y), some (.inl ((c2_spreadOf_a10 f y k10).1)), some (.inl ((c2_spreadOf_a10 f y k10).2)), some (.inl (Int32.ofNat k10))]) (st' := [.inr (.inr (.inl (50, 182))), .inl ((c2_spreadOf_a10 f y k10).1)]) (m' := (f, l)) rfl rfl (fl_bo rfl) rfl ?_
    refine fl_Tq.stp (pc' := 23) (lv' := [some (.inr (.inr (.inl (49, 181)))), some (.inl (0 : Int32)), some (.inl y), some (.inl ((c2_spreadOf_a10 f y k10).1)), some (.inl ((c2_spreadOf_a10 f y k10).2)), some (.inl (Int32.ofNat k10))]) (st' := [.inl (Int32.ofNat k10), .inr (.inr (.inl (50, 182))), .inl ((c2_spreadOf_a10 f y k10).1)]) (m' := (f, l)) rfl rfl (fl_bo rfl) rfl ?_
    refine fl_Tq.qld (p := 182) (τ := 50) (n := 16) (t := 66) (b := 16) (d := 3) (k := k10) rfl (fl_bo rfl) rfl (at_ofN (by omega)) (by omega) ?_
    show fl_Tq _ 41 24 [some (.inr (.inr (.inl (49, 181)))), some (.inl (0 : Int32)), some (.inl y), some (.inl ((c2_spreadOf_a10 f y k10).1)), some (.inl ((c2_spreadOf_a10 f y k10).2)), some (.inl (Int32.ofNat k10))] [.inr (.inr (.inl (66, 198 + 4 * k10))), .inl ((c2_spreadOf_a10 f y k10).1)] (f, l) _
    refine fl_Tq.gfV (k := 3) (v := f (198 + 4 * k10) 3) rfl (fl_oks_ok ⟨(t2_kc2 (by omega)), True.intro, True.intro⟩) rfl rfl ?_
    refine fl_Tq.cal rfl rfl (fl_bo rfl) rfl ?_
    refine t2_min_q  ?_
    show fl_Tq _ 41 30 [some (.inr (.inr (.inl (49, 181)))), some (.inl (0 : Int32)), some (.inl y), some (.inl ((c2_spreadOf_a10 f y k10).1)), some (.inl ((c2_spreadOf_a10 f y k10).2)), some (.inl (Int32.ofNat k10))] [.inl (t2_min_v ((c2_spreadOf_a10 f y k10).1) (f (198 + 4 * k10) 3))] (f, l) _
    refine fl_Tq.stp (pc' := 31) (lv' := [some (.inr (.inr (.inl (49, 181)))), some (.inl (0 : Int32)), some (.inl y), some (.inl (t2_min_v ((c2_spreadOf_a10 f y k10).1) (f (198 + 4 * k10) 3))), some (.inl ((c2_spreadOf_a10 f y k10).2)), some (.inl (Int32.ofNat k10))]) (st' := []) (m' := (f, l)) rfl rfl (fl_bo rfl) rfl ?_
    refine fl_Tq.stp (pc' := 33) (lv' := [some (.inr (.inr (.inl (49, 181)))), some (.inl (0 : Int32)), some (.inl y), some (.inl (t2_min_v ((c2_spreadOf_a10 f y k10).1) (f (198 + 4 * k10) 3))), some (.inl ((c2_spreadOf_a10 f y k10).2)), some (.inl (Int32.ofNat k10))]) (st' := [.inl ((c2_spreadOf_a10 f y k10).2)]) (m' := (f, l)) rfl rfl (fl_bo rfl) rfl ?_
    refine fl_Tq.stp (pc' := 34) (lv' := [some (.inr (.inr (.inl (49, 181)))), some (.inl (0 : Int32)), some (.inl y), some (.inl (t2_min_v ((c2_spreadOf_a10 f y k10).1) (f (198 + 4 * k10) 3))), some (.inl ((c2_spreadOf_a10 f y k10).2)), some (.inl (Int32.ofNat k10))]) (st' := [.inr (.inr (.inl (49, 181))), .inl ((c2_spreadOf_a10 f y k10).2)]) (m' := (f, l)) rfl rfl (fl_bo rfl) rfl ?_
    refine fl_Tq.stp (pc' := 37) (lv' := [some (.inr (.inr (.inl (49, 181)))), some (.inl (0 : Int32)), some (.inl y), some (.inl (t2_min_v ((c2_spreadOf_a10 f y k10).1) (f (198 + 4 * k10) 3))), some (.inl ((c2_spreadOf_a10 f y k10).2)), some (.inl (Int32.ofNat k10))]) (st' := [.inr (.inr (.inl (50, 182))), .inl ((c2_spreadOf_a10 f y k10).2)]) (m' := (f, l)) rfl rfl (fl_bo rfl) rfl ?_
    refine fl_Tq.stp (pc' := 39) (lv' := [some (.inr (.inr (.inl (49, 181)))), some (.inl (0 : Int32)), some (.inl y), some (.inl (t2_min_v ((c2_spreadOf_a10 f y k10).1) (f (198 + 4 * k10) 3))), some (.inl ((c2_spreadOf_a10 f y k10).2)), some (.inl (Int32.ofNat k10))]) (st' := [.inl (Int32.ofNat k10), .inr (.inr (.inl (50, 182))), .inl ((c2_spreadOf_a10 f y k10).2)]) (m' := (f, l)) rfl rfl (fl_bo rfl) rfl ?_
    refine fl_Tq.qld (p := 182) (τ := 50) (n := 16) (t := 66) (b := 16) (d := 3) (k := k10) rfl (fl_bo rfl) rfl (at_ofN (by omega)) (by omega) ?_
    show fl_Tq _ 41 40 [some (.inr (.inr (.inl (49, 181)))), some (.inl (0 : Int32)), some (.inl y), some (.inl (t2_min_v ((c2_spreadOf_a10 f y k10).1) (f (198 + 4 * k10) 3))), some (.inl ((c2_spreadOf_a10 f y k10).2)), some (.inl (Int32.ofNat k10))] [.inr (.inr (.inl (66, 198 + 4 * k10))), .inl ((c2_spreadOf_a10 f y k10).2)] (f, l) _
    refine fl_Tq.gfV (k := 3) (v := f (198 + 4 * k10) 3) rfl (fl_oks_ok ⟨(t2_kc2 (by omega)), True.intro, True.intro⟩) rfl rfl ?_
    refine fl_Tq.cal rfl rfl (fl_bo rfl) rfl ?_
    refine t2_max_q  ?_
    show fl_Tq _ 41 46 [some (.inr (.inr (.inl (49, 181)))), some (.inl (0 : Int32)), some (.inl y), some (.inl (t2_min_v ((c2_spreadOf_a10 f y k10).1) (f (198 + 4 * k10) 3))), some (.inl ((c2_spreadOf_a10 f y k10).2)), some (.inl (Int32.ofNat k10))] [.inl (t2_max_v ((c2_spreadOf_a10 f y k10).2) (f (198 + 4 * k10) 3))] (f, l) _
    refine fl_Tq.stp (pc' := 48) (lv' := [some (.inr (.inr (.inl (49, 181)))), some (.inl (0 : Int32)), some (.inl y), some (.inl (t2_min_v ((c2_spreadOf_a10 f y k10).1) (f (198 + 4 * k10) 3))), some (.inl (t2_max_v ((c2_spreadOf_a10 f y k10).2) (f (198 + 4 * k10) 3))), some (.inl (Int32.ofNat k10))]) (st' := []) (m' := (f, l)) rfl rfl (fl_bo rfl) rfl ?_
    refine fl_Tq.stp (pc' := 51) (lv' := [some (.inr (.inr (.inl (49, 181)))), some (.inl (0 : Int32)), some (.inl y), some (.inl (t2_min_v ((c2_spreadOf_a10 f y k10).1) (f (198 + 4 * k10) 3))), some (.inl (t2_max_v ((c2_spreadOf_a10 f y k10).2) (f (198 + 4 * k10) 3))), some (.inl ((Int32.ofNat k10) + (1 : Int32)))]) (st' := []) (m' := (f, l)) rfl rfl (fl_bo rfl) rfl ?_
    refine fl_Tq.stp (pc' := 10) (lv' := [some (.inr (.inr (.inl (49, 181)))), some (.inl (0 : Int32)), some (.inl y), some (.inl (t2_min_v ((c2_spreadOf_a10 f y k10).1) (f (198 + 4 * k10) 3))), some (.inl (t2_max_v ((c2_spreadOf_a10 f y k10).2) (f (198 + 4 * k10) 3))), some (.inl ((Int32.ofNat k10) + (1 : Int32)))]) (st' := []) (m' := (f, l)) rfl rfl (fl_bo rfl) rfl ?_
    have ea : c2_spreadOf_a10 f y (k10 + 1) = (t2_min_v ((c2_spreadOf_a10 f y k10).1) (f (198 + 4 * k10) 3), t2_max_v ((c2_spreadOf_a10 f y k10).2) (f (198 + 4 * k10) 3)) := by
      show ((t2_min_v ((c2_spreadOf_a10 f y k10).1) (f (198 + 4 * k10) 3), t2_max_v ((c2_spreadOf_a10 f y k10).2) (f (198 + 4 * k10) 3))) = _
      rfl
    rw [ea, ← t2_k1] at hS
    exact hS
  refine t2_for (S := fun k10 => fl_Tq (pw_P L xs) 41 10 [some (.inr (.inr (.inl (49, 181)))), some (.inl (0 : Int32)), some (.inl y), some (.inl ((c2_spreadOf_a10 f y k10).1)), some (.inl ((c2_spreadOf_a10 f y k10).2)), some (.inl (Int32.ofNat k10))] [] (f, l) Q) hs10 ?_
  show fl_Tq (pw_P L xs) 41 10 [some (.inr (.inr (.inl (49, 181)))), some (.inl (0 : Int32)), some (.inl y), some (.inl ((c2_spreadOf_a10 f y y.toInt.toNat).1)), some (.inl ((c2_spreadOf_a10 f y y.toInt.toNat).2)), some (.inl (Int32.ofNat y.toInt.toNat))] [] (f, l) _
  refine fl_Tq.stp (pc' := 12) (lv' := [some (.inr (.inr (.inl (49, 181)))), some (.inl (0 : Int32)), some (.inl y), some (.inl ((c2_spreadOf_a10 f y y.toInt.toNat).1)), some (.inl ((c2_spreadOf_a10 f y y.toInt.toNat).2)), some (.inl (Int32.ofNat y.toInt.toNat))]) (st' := [.inl (Int32.ofNat y.toInt.toNat)]) (m' := (f, l)) rfl rfl (fl_bo rfl) rfl ?_
  refine fl_Tq.stp (pc' := 13) (lv' := [some (.inr (.inr (.inl (49, 181)))), some (.inl (0 : Int32)), some (.inl y), some (.inl ((c2_spreadOf_a10 f y y.toInt.toNat).1)), some (.inl ((c2_spreadOf_a10 f y y.toInt.toNat).2)), some (.inl (Int32.ofNat y.toInt.toNat))]) (st' := [.inl y, .inl (Int32.ofNat y.toInt.toNat)]) (m' := (f, l)) rfl rfl (fl_bo rfl) rfl ?_
  refine fl_Tq.jt rfl (fl_bo rfl) (c2_ge_t (t2_ln (t2_nn hy.1))) rfl ?_
  refine fl_Tq.stp (pc' := 56) (lv' := [some (.inr (.inr (.inl (49, 181)))), some (.inl (0 : Int32)), some (.inl y), some (.inl ((c2_spreadOf_a10 f y y.toInt.toNat).1)), some (.inl ((c2_spreadOf_a10 f y y.toInt.toNat).2)), some (.inl (Int32.ofNat y.toInt.toNat))]) (st' := [.inl ((c2_spreadOf_a10 f y y.toInt.toNat).2)]) (m' := (f, l)) rfl rfl (fl_bo rfl) rfl ?_
  refine fl_Tq.stp (pc' := 57) (lv' := [some (.inr (.inr (.inl (49, 181)))), some (.inl (0 : Int32)), some (.inl y), some (.inl ((c2_spreadOf_a10 f y y.toInt.toNat).1)), some (.inl ((c2_spreadOf_a10 f y y.toInt.toNat).2)), some (.inl (Int32.ofNat y.toInt.toNat))]) (st' := [.inl ((c2_spreadOf_a10 f y y.toInt.toNat).1), .inl ((c2_spreadOf_a10 f y y.toInt.toNat).2)]) (m' := (f, l)) rfl rfl (fl_bo rfl) rfl ?_
  refine fl_Tq.stp (pc' := 58) (lv' := [some (.inr (.inr (.inl (49, 181)))), some (.inl (0 : Int32)), some (.inl y), some (.inl ((c2_spreadOf_a10 f y y.toInt.toNat).1)), some (.inl ((c2_spreadOf_a10 f y y.toInt.toNat).2)), some (.inl (Int32.ofNat y.toInt.toNat))]) (st' := [.inl (((c2_spreadOf_a10 f y y.toInt.toNat).2) - ((c2_spreadOf_a10 f y y.toInt.toNat).1))]) (m' := (f, l)) rfl rfl (fl_bo rfl) rfl ?_
  exact fl_Tq.ret rfl rfl rfl k
noncomputable def c2_partSpread_j4_0 (f : t2_F)  : Int32 := if (f 181 5).toInt = 0 then (-1 : Int32) else c2_spreadOf_v f (f 181 5)
noncomputable def c2_partSpread_v (f : t2_F) : Int32 := c2_partSpread_j4_0 f
theorem c2_partSpread_q {L : Nat} {xs : Nat → Int32} {f : t2_F} {l : t2_L} {Q : Option fl_V → fl_M → Prop}  (hc : 0 ≤ (f 181 5).toInt ∧ (f 181 5).toInt ≤ 16) (k : Q (some (.inl (c2_partSpread_v f))) (f, l)) : fl_Tq (pw_P L xs) 40 0 (fl_args (am_mxl (pw_P L xs) 40) [.inr (.inr (.inl (49, 181)))]) [] (f, l) Q := by
  refine fl_Tq.stp (pc' := 1) (lv' := [some (.inr (.inr (.inl (49, 181))))]) (st' := [.inr (.inr (.inl (49, 181)))]) (m' := (f, l)) rfl rfl (fl_bo rfl) rfl ?_
  refine fl_Tq.gfV (k := 5) (v := f 181 5) rfl (fl_bo rfl) rfl rfl ?_
  have hj48 : fl_Tq (pw_P L xs) 40 20 [some (.inr (.inr (.inl (49, 181))))] [.inl (c2_partSpread_j4_0 f)] (f, l) Q → fl_Tq (pw_P L xs) 40 4 [some (.inr (.inr (.inl (49, 181))))] [.inl (f 181 5)] (f, l) Q := by
    intro hJ
    by_cases h1 : (f 181 5).toInt = 0
    · refine fl_Tq.zf rfl (fl_bo rfl) (c1_ne_f h1) rfl ?_
      refine fl_Tq.cI (c := (-1 : Int32)) rfl (by decide +kernel) (fl_bo rfl) ?_
      refine fl_Tq.stp (pc' := 20) (lv' := [some (.inr (.inr (.inl (49, 181))))]) (st' := [.inl (-1 : Int32)]) (m' := (f, l)) rfl rfl (fl_bo rfl) rfl ?_
      have e0 : (c2_partSpread_j4_0 f) = (-1 : Int32) := by simp only [c2_partSpread_j4_0, if_pos h1]
      rw [e0] at hJ
      exact hJ
    · refine fl_Tq.zt rfl (fl_bo rfl) (c1_ne_t h1) rfl ?_
      refine fl_Tq.stp (pc' := 12) (lv' := [some (.inr (.inr (.inl (49, 181))))]) (st' := [.inr (.inr (.inl (49, 181)))]) (m' := (f, l)) rfl rfl (fl_bo rfl) rfl ?_
      refine fl_Tq.cI (c := (0 : Int32)) rfl (by decide +kernel) (fl_bo rfl) ?_
      refine fl_Tq.stp (pc' := 14) (lv' := [some (.inr (.inr (.inl (49, 181))))]) (st' := [.inr (.inr (.inl (49, 181))), .inl (0 : Int32), .inr (.inr (.inl (49, 181)))]) (m' := (f, l)) rfl rfl (fl_bo rfl) rfl ?_
      refine fl_Tq.gfV (k := 5) (v := f 181 5) rfl (fl_bo rfl) rfl rfl ?_
      refine fl_Tq.cal rfl rfl (fl_bo rfl) rfl ?_
      refine c2_spreadOf_q hc ?_
      show fl_Tq _ 40 20 [some (.inr (.inr (.inl (49, 181))))] [.inl (c2_spreadOf_v f (f 181 5))] (f, l) _
      have e0 : (c2_partSpread_j4_0 f) = c2_spreadOf_v f (f 181 5) := by simp only [c2_partSpread_j4_0, if_neg h1]
      rw [e0] at hJ
      exact hJ
  refine hj48 ?_
  show fl_Tq _ 40 20 [some (.inr (.inr (.inl (49, 181))))] [.inl (c2_partSpread_j4_0 f)] (f, l) _
  exact fl_Tq.ret rfl rfl rfl k
noncomputable def c2_worstCell_a8 (f : t2_F) (x : Int32) : Nat → Int32 × Int32
  | 0 => ((-1 : Int32), (2147483647 : Int32))
  | k8 + 1 => (if ((c2_worstCell_a8 f x k8).1).toInt = (-1 : Int32).toInt then Int32.ofNat k8 else (if (c2_ownLimit_v f k8 x).toInt < ((c2_worstCell_a8 f x k8).2).toInt then Int32.ofNat k8 else (c2_worstCell_a8 f x k8).1), if ((c2_worstCell_a8 f x k8).1).toInt = (-1 : Int32).toInt then c2_ownLimit_v f k8 x else (if (c2_ownLimit_v f k8 x).toInt < ((c2_worstCell_a8 f x k8).2).toInt then c2_ownLimit_v f k8 x else (c2_worstCell_a8 f x k8).2))
noncomputable def c2_worstCell_v (f : t2_F) (x : Int32) : Int32 := (c2_worstCell_a8 f x ((f 181 5).toInt.toNat)).1
theorem c2_worstCell_q {L : Nat} {xs : Nat → Int32} {f : t2_F} {l : t2_L} {Q : Option fl_V → fl_M → Prop} {x : Int32} (hc : 0 ≤ (f 181 5).toInt ∧ (f 181 5).toInt ≤ 16) (hz : 0 ≤ (f 183 6).toInt ∧ (f 183 6).toInt ≤ 6) (k : Q (some (.inl (c2_worstCell_v f x))) (f, l)) : fl_Tq (pw_P L xs) 51 0 (fl_args (am_mxl (pw_P L xs) 51) [.inr (.inr (.inl (49, 181))), .inl x]) [] (f, l) Q := by
  refine fl_Tq.cI (c := (-1 : Int32)) rfl (by decide +kernel) (fl_bo rfl) ?_
  refine fl_Tq.stp (pc' := 2) (lv' := [some (.inr (.inr (.inl (49, 181)))), some (.inl x), some (.inl (-1 : Int32)), none, none, none]) (st' := []) (m' := (f, l)) rfl rfl (fl_bo rfl) rfl ?_
  refine fl_Tq.stp (pc' := 4) (lv' := [some (.inr (.inr (.inl (49, 181)))), some (.inl x), some (.inl (-1 : Int32)), none, none, none]) (st' := [.inl (2147483647 : Int32)]) (m' := (f, l)) rfl rfl (fl_bo rfl) rfl ?_
  refine fl_Tq.stp (pc' := 5) (lv' := [some (.inr (.inr (.inl (49, 181)))), some (.inl x), some (.inl (-1 : Int32)), some (.inl (2147483647 : Int32)), none, none]) (st' := []) (m' := (f, l)) rfl rfl (fl_bo rfl) rfl ?_
  refine fl_Tq.cI (c := (0 : Int32)) rfl (by decide +kernel) (fl_bo rfl) ?_
  refine fl_Tq.stp (pc' := 8) (lv' := [some (.inr (.inr (.inl (49, 181)))), some (.inl x), some (.inl (-1 : Int32)), some (.inl (2147483647 : Int32)), some (.inl (0 : Int32)), none]) (st' := []) (m' := (f, l)) rfl rfl (fl_bo rfl) rfl ?_
  have hs8 : ∀ k8 : Nat, k8 < (f 181 5).toInt.toNat → fl_Tq (pw_P L xs) 51 8 [some (.inr (.inr (.inl (49, 181)))), some (.inl x), some (.inl ((c2_worstCell_a8 f x (k8 + 1)).1)), some (.inl ((c2_worstCell_a8 f x (k8 + 1)).2)), some (.inl (Int32.ofNat (k8 + 1))), none] [] (f, l) Q → fl_Tq (pw_P L xs) 51 8 [some (.inr (.inr (.inl (49, 181)))), some (.inl x), some (.inl ((c2_worstCell_a8 f x k8).1)), some (.inl ((c2_worstCell_a8 f x k8).2)), some (.inl (Int32.ofNat k8)), none] [] (f, l) Q := by
    intro k8 hk8 hS
    refine fl_Tq.stp (pc' := 10) (lv' := [some (.inr (.inr (.inl (49, 181)))), some (.inl x), some (.inl ((c2_worstCell_a8 f x k8).1)), some (.inl ((c2_worstCell_a8 f x k8).2)), some (.inl (Int32.ofNat k8)), none]) (st' := [.inl (Int32.ofNat k8)]) (m' := (f, l)) rfl rfl (fl_bo rfl) rfl ?_
    refine fl_Tq.stp (pc' := 11) (lv' := [some (.inr (.inr (.inl (49, 181)))), some (.inl x), some (.inl ((c2_worstCell_a8 f x k8).1)), some (.inl ((c2_worstCell_a8 f x k8).2)), some (.inl (Int32.ofNat k8)), none]) (st' := [.inr (.inr (.inl (49, 181))), .inl (Int32.ofNat k8)]) (m' := (f, l)) rfl rfl (fl_bo rfl) rfl ?_
    refine fl_Tq.gfV (k := 5) (v := f 181 5) rfl (fl_bo rfl) rfl rfl ?_
    refine fl_Tq.jf rfl (fl_bo rfl) (c2_ge_f (t2_lk hk8 (t2_nn hc.1))) rfl ?_
    refine fl_Tq.stp (pc' := 18) (lv' := [some (.inr (.inr (.inl (49, 181)))), some (.inl x), some (.inl ((c2_worstCell_a8 f x k8).1)), some (.inl ((c2_worstCell_a8 f x k8).2)), some (.inl (Int32.ofNat k8)), none]) (st' := [.inr (.inr (.inl (49, 181)))]) (m' := (f, l)) rfl rfl (fl_bo rfl) rfl ?_
    refine fl_Tq.stp (pc' := 21) (lv' := [some (.inr (.inr (.inl (49, 181)))), some (.inl x), some (.inl ((c2_worstCell_a8 f x k8).1)), some (.inl ((c2_worstCell_a8 f x k8).2)), some (.inl (Int32.ofNat k8)), none]) (st' := [.inr (.inr (.inl (50, 182)))]) (m' := (f, l)) rfl rfl (fl_bo rfl) rfl ?_
    refine fl_Tq.stp (pc' := 23) (lv' := [some (.inr (.inr (.inl (49, 181)))), some (.inl x), some (.inl ((c2_worstCell_a8 f x k8).1)), some (.inl ((c2_worstCell_a8 f x k8).2)), some (.inl (Int32.ofNat k8)), none]) (st' := [.inl (Int32.ofNat k8), .inr (.inr (.inl (50, 182)))]) (m' := (f, l)) rfl rfl (fl_bo rfl) rfl ?_
    refine fl_Tq.qld (p := 182) (τ := 50) (n := 16) (t := 66) (b := 16) (d := 3) (k := k8) rfl (fl_bo rfl) rfl (at_ofN (by omega)) (by omega) ?_
    show fl_Tq _ 51 24 [some (.inr (.inr (.inl (49, 181)))), some (.inl x), some (.inl ((c2_worstCell_a8 f x k8).1)), some (.inl ((c2_worstCell_a8 f x k8).2)), some (.inl (Int32.ofNat k8)), none] [.inr (.inr (.inl (66, 198 + 4 * k8)))] (f, l) _
    refine fl_Tq.stp (pc' := 25) (lv' := [some (.inr (.inr (.inl (49, 181)))), some (.inl x), some (.inl ((c2_worstCell_a8 f x k8).1)), some (.inl ((c2_worstCell_a8 f x k8).2)), some (.inl (Int32.ofNat k8)), none]) (st' := [.inl x, .inr (.inr (.inl (66, 198 + 4 * k8)))]) (m' := (f, l)) rfl rfl (fl_oks_ok ⟨(t2_kc2 (by omega)), True.intro⟩) rfl ?_
    refine fl_Tq.stp (pc' := 26) (lv' := [some (.inr (.inr (.inl (49, 181)))), some (.inl x), some (.inl ((c2_worstCell_a8 f x k8).1)), some (.inl ((c2_worstCell_a8 f x k8).2)), some (.inl (Int32.ofNat k8)), none]) (st' := [.inr (.inr (.inl (49, 181))), .inl x, .inr (.inr (.inl (66, 198 + 4 * k8)))]) (m' := (f, l)) rfl rfl (fl_oks_ok ⟨True.intro, (t2_kc2 (by omega)), True.intro⟩) rfl ?_
    refine fl_Tq.stp (pc' := 29) (lv' := [some (.inr (.inr (.inl (49, 181)))), some (.inl x), some (.inl ((c2_worstCell_a8 f x k8).1)), some (.inl ((c2_worstCell_a8 f x k8).2)), some (.inl (Int32.ofNat k8)), none]) (st' := [.inr (.inr (.inl (51, 183))), .inl x, .inr (.inr (.inl (66, 198 + 4 * k8)))]) (m' := (f, l)) rfl rfl (fl_oks_ok ⟨fl_okp (by decide +kernel) (by decide), True.intro, (t2_kc2 (by omega)), True.intro⟩) rfl ?_
    refine fl_Tq.cal rfl rfl (fl_oks_ok ⟨fl_okp (by decide +kernel) (by decide), True.intro, (t2_kc2 (by omega)), True.intro⟩) rfl ?_
    refine c2_ownLimit_q (by omega) hz ?_
    show fl_Tq _ 51 32 [some (.inr (.inr (.inl (49, 181)))), some (.inl x), some (.inl ((c2_worstCell_a8 f x k8).1)), some (.inl ((c2_worstCell_a8 f x k8).2)), some (.inl (Int32.ofNat k8)), none] [.inl (c2_ownLimit_v f k8 x)] (f, l) _
    refine fl_Tq.stp (pc' := 34) (lv' := [some (.inr (.inr (.inl (49, 181)))), some (.inl x), some (.inl ((c2_worstCell_a8 f x k8).1)), some (.inl ((c2_worstCell_a8 f x k8).2)), some (.inl (Int32.ofNat k8)), some (.inl (c2_ownLimit_v f k8 x))]) (st' := []) (m' := (f, l)) rfl rfl (fl_bo rfl) rfl ?_
    refine fl_Tq.stp (pc' := 35) (lv' := [some (.inr (.inr (.inl (49, 181)))), some (.inl x), some (.inl ((c2_worstCell_a8 f x k8).1)), some (.inl ((c2_worstCell_a8 f x k8).2)), some (.inl (Int32.ofNat k8)), some (.inl (c2_ownLimit_v f k8 x))]) (st' := [.inl ((c2_worstCell_a8 f x k8).1)]) (m' := (f, l)) rfl rfl (fl_bo rfl) rfl ?_
    refine fl_Tq.cI (c := (-1 : Int32)) rfl (by decide +kernel) (fl_bo rfl) ?_
    have hj49 : fl_Tq (pw_P L xs) 51 51 [some (.inr (.inr (.inl (49, 181)))), some (.inl x), some (.inl (if ((c2_worstCell_a8 f x k8).1).toInt = (-1 : Int32).toInt then Int32.ofNat k8 else (if (c2_ownLimit_v f k8 x).toInt < ((c2_worstCell_a8 f x k8).2).toInt then Int32.ofNat k8 else (c2_worstCell_a8 f x k8).1))), some (.inl (if ((c2_worstCell_a8 f x k8).1).toInt = (-1 : Int32).toInt then c2_ownLimit_v f k8 x else (if (c2_ownLimit_v f k8 x).toInt < ((c2_worstCell_a8 f x k8).2).toInt then c2_ownLimit_v f k8 x else (c2_worstCell_a8 f x k8).2))), some (.inl (Int32.ofNat k8)), some (.inl (c2_ownLimit_v f k8 x))] [] (f, l) Q → fl_Tq (pw_P L xs) 51 36 [some (.inr (.inr (.inl (49, 181)))), some (.inl x), some (.inl ((c2_worstCell_a8 f x k8).1)), some (.inl ((c2_worstCell_a8 f x k8).2)), some (.inl (Int32.ofNat k8)), some (.inl (c2_ownLimit_v f k8 x))] [.inl (-1 : Int32), .inl ((c2_worstCell_a8 f x k8).1)] (f, l) Q := by
      intro hJ
      by_cases h1 : ((c2_worstCell_a8 f x k8).1).toInt = (-1 : Int32).toInt
      · refine fl_Tq.jt rfl (fl_bo rfl) (c2_eq_t h1) rfl ?_
        refine fl_Tq.stp (pc' := 47) (lv' := [some (.inr (.inr (.inl (49, 181)))), some (.inl x), some (.inl ((c2_worstCell_a8 f x k8).1)), some (.inl ((c2_worstCell_a8 f x k8).2)), some (.inl (Int32.ofNat k8)), some (.inl (c2_ownLimit_v f k8 x))]) (st' := [.inl (Int32.ofNat k8)]) (m' := (f, l)) rfl rfl (fl_bo rfl) rfl ?_
        refine fl_Tq.stp (pc' := 48) (lv' := [some (.inr (.inr (.inl (49, 181)))), some (.inl x), some (.inl (Int32.ofNat k8)), some (.inl ((c2_worstCell_a8 f x k8).2)), some (.inl (Int32.ofNat k8)), some (.inl (c2_ownLimit_v f k8 x))]) (st' := []) (m' := (f, l)) rfl rfl (fl_bo rfl) rfl ?_
        refine fl_Tq.stp (pc' := 50) (lv' := [some (.inr (.inr (.inl (49, 181)))), some (.inl x), some (.inl (Int32.ofNat k8)), some (.inl ((c2_worstCell_a8 f x k8).2)), some (.inl (Int32.ofNat k8)), some (.inl (c2_ownLimit_v f k8 x))]) (st' := [.inl (c2_ownLimit_v f k8 x)]) (m' := (f, l)) rfl rfl (fl_bo rfl) rfl ?_
        refine fl_Tq.stp (pc' := 51) (lv' := [some (.inr (.inr (.inl (49, 181)))), some (.inl x), some (.inl (Int32.ofNat k8)), some (.inl (c2_ownLimit_v f k8 x)), some (.inl (Int32.ofNat k8)), some (.inl (c2_ownLimit_v f k8 x))]) (st' := []) (m' := (f, l)) rfl rfl (fl_bo rfl) rfl ?_
        have e0 : (if ((c2_worstCell_a8 f x k8).1).toInt = (-1 : Int32).toInt then Int32.ofNat k8 else (if (c2_ownLimit_v f k8 x).toInt < ((c2_worstCell_a8 f x k8).2).toInt then Int32.ofNat k8 else (c2_worstCell_a8 f x k8).1)) = Int32.ofNat k8 := by simp only [if_pos h1]
        have e1 : (if ((c2_worstCell_a8 f x k8).1).toInt = (-1 : Int32).toInt then c2_ownLimit_v f k8 x else (if (c2_ownLimit_v f k8 x).toInt < ((c2_worstCell_a8 f x k8).2).toInt then c2_ownLimit_v f k8 x else (c2_worstCell_a8 f x k8).2)) = c2_ownLimit_v f k8 x := by simp only [if_pos h1]
        rw [e0, e1] at hJ
        exact hJ
      · refine fl_Tq.jf rfl (fl_bo rfl) (c2_eq_f h1) rfl ?_
        refine fl_Tq.stp (pc' := 41) (lv' := [some (.inr (.inr (.inl (49, 181)))), some (.inl x), some (.inl ((c2_worstCell_a8 f x k8).1)), some (.inl ((c2_worstCell_a8 f x k8).2)), some (.inl (Int32.ofNat k8)), some (.inl (c2_ownLimit_v f k8 x))]) (st' := [.inl (c2_ownLimit_v f k8 x)]) (m' := (f, l)) rfl rfl (fl_bo rfl) rfl ?_
        refine fl_Tq.stp (pc' := 42) (lv' := [some (.inr (.inr (.inl (49, 181)))), some (.inl x), some (.inl ((c2_worstCell_a8 f x k8).1)), some (.inl ((c2_worstCell_a8 f x k8).2)), some (.inl (Int32.ofNat k8)), some (.inl (c2_ownLimit_v f k8 x))]) (st' := [.inl ((c2_worstCell_a8 f x k8).2), .inl (c2_ownLimit_v f k8 x)]) (m' := (f, l)) rfl rfl (fl_bo rfl) rfl ?_
        by_cases h2 : (c2_ownLimit_v f k8 x).toInt < ((c2_worstCell_a8 f x k8).2).toInt
        · refine fl_Tq.jf rfl (fl_bo rfl) (c2_ge_f h2) rfl ?_
          refine fl_Tq.stp (pc' := 47) (lv' := [some (.inr (.inr (.inl (49, 181)))), some (.inl x), some (.inl ((c2_worstCell_a8 f x k8).1)), some (.inl ((c2_worstCell_a8 f x k8).2)), some (.inl (Int32.ofNat k8)), some (.inl (c2_ownLimit_v f k8 x))]) (st' := [.inl (Int32.ofNat k8)]) (m' := (f, l)) rfl rfl (fl_bo rfl) rfl ?_
          refine fl_Tq.stp (pc' := 48) (lv' := [some (.inr (.inr (.inl (49, 181)))), some (.inl x), some (.inl (Int32.ofNat k8)), some (.inl ((c2_worstCell_a8 f x k8).2)), some (.inl (Int32.ofNat k8)), some (.inl (c2_ownLimit_v f k8 x))]) (st' := []) (m' := (f, l)) rfl rfl (fl_bo rfl) rfl ?_
          refine fl_Tq.stp (pc' := 50) (lv' := [some (.inr (.inr (.inl (49, 181)))), some (.inl x), some (.inl (Int32.ofNat k8)), some (.inl ((c2_worstCell_a8 f x k8).2)), some (.inl (Int32.ofNat k8)), some (.inl (c2_ownLimit_v f k8 x))]) (st' := [.inl (c2_ownLimit_v f k8 x)]) (m' := (f, l)) rfl rfl (fl_bo rfl) rfl ?_
          refine fl_Tq.stp (pc' := 51) (lv' := [some (.inr (.inr (.inl (49, 181)))), some (.inl x), some (.inl (Int32.ofNat k8)), some (.inl (c2_ownLimit_v f k8 x)), some (.inl (Int32.ofNat k8)), some (.inl (c2_ownLimit_v f k8 x))]) (st' := []) (m' := (f, l)) rfl rfl (fl_bo rfl) rfl ?_
          have e0 : (if ((c2_worstCell_a8 f x k8).1).toInt = (-1 : Int32).toInt then Int32.ofNat k8 else (if (c2_ownLimit_v f k8 x).toInt < ((c2_worstCell_a8 f x k8).2).toInt then Int32.ofNat k8 else (c2_worstCell_a8 f x k8).1)) = Int32.ofNat k8 := by simp only [if_neg h1, if_pos h2]
          have e1 : (if ((c2_worstCell_a8 f x k8).1).toInt = (-1 : Int32).toInt then c2_ownLimit_v f k8 x else (if (c2_ownLimit_v f k8 x).toInt < ((c2_worstCell_a8 f x k8).2).toInt then c2_ownLimit_v f k8 x else (c2_worstCell_a8 f x k8).2)) = c2_ownLimit_v f k8 x := by simp only [if_neg h1, if_pos h2]
          rw [e0, e1] at hJ
          exact hJ
        · refine fl_Tq.jt rfl (fl_bo rfl) (c2_ge_t h2) rfl ?_
          have e0 : (if ((c2_worstCell_a8 f x k8).1).toInt = (-1 : Int32).toInt then Int32.ofNat k8 else (if (c2_ownLimit_v f k8 x).toInt < ((c2_worstCell_a8 f x k8).2).toInt then Int32.ofNat k8 else (c2_worstCell_a8 f x k8).1)) = (c2_worstCell_a8 f x k8).1 := by simp only [if_neg h1, if_neg h2]
          have e1 : (if ((c2_worstCell_a8 f x k8).1).toInt = (-1 : Int32).toInt then c2_ownLimit_v f k8 x else (if (c2_ownLimit_v f k8 x).toInt < ((c2_worstCell_a8 f x k8).2).toInt then c2_ownLimit_v f k8 x else (c2_worstCell_a8 f x k8).2)) = (c2_worstCell_a8 f x k8).2 := by simp only [if_neg h1, if_neg h2]
          rw [e0, e1] at hJ
          exact hJ
    refine hj49 ?_
    show fl_Tq _ 51 51 [some (.inr (.inr (.inl (49, 181)))), some (.inl x), some (.inl (if ((c2_worstCell_a8 f x k8).1).toInt = (-1 : Int32).toInt then Int32.ofNat k8 else (if (c2_ownLimit_v f k8 x).toInt < ((c2_worstCell_a8 f x k8).2).toInt then Int32.ofNat k8 else (c2_worstCell_a8 f x k8).1))), some (.inl (if ((c2_worstCell_a8 f x k8).1).toInt = (-1 : Int32).toInt then c2_ownLimit_v f k8 x else (if (c2_ownLimit_v f k8 x).toInt < ((c2_worstCell_a8 f x k8).2).toInt then c2_ownLimit_v f k8 x else (c2_worstCell_a8 f x k8).2))), some (.inl (Int32.ofNat k8)), some (.inl (c2_ownLimit_v f k8 x))] [] (f, l) _
    refine fl_Tq.stp (pc' := 54) (lv' := [some (.inr (.inr (.inl (49, 181)))), some (.inl x), some (.inl (if ((c2_worstCell_a8 f x k8).1).toInt = (-1 : Int32).toInt then Int32.ofNat k8 else (if (c2_ownLimit_v f k8 x).toInt < ((c2_worstCell_a8 f x k8).2).toInt then Int32.ofNat k8 else (c2_worstCell_a8 f x k8).1))), some (.inl (if ((c2_worstCell_a8 f x k8).1).toInt = (-1 : Int32).toInt then c2_ownLimit_v f k8 x else (if (c2_ownLimit_v f k8 x).toInt < ((c2_worstCell_a8 f x k8).2).toInt then c2_ownLimit_v f k8 x else (c2_worstCell_a8 f x k8).2))), some (.inl ((Int32.ofNat k8) + (1 : Int32))), some (.inl (c2_ownLimit_v f k8 x))]) (st' := []) (m' := (f, l)) rfl rfl (fl_bo rfl) rfl ?_
    refine fl_Tq.stp (pc' := 8) (lv' := [some (.inr (.inr (.inl (49, 181)))), some (.inl x), some (.inl (if ((c2_worstCell_a8 f x k8).1).toInt = (-1 : Int32).toInt then Int32.ofNat k8 else (if (c2_ownLimit_v f k8 x).toInt < ((c2_worstCell_a8 f x k8).2).toInt then Int32.ofNat k8 else (c2_worstCell_a8 f x k8).1))), some (.inl (if ((c2_worstCell_a8 f x k8).1).toInt = (-1 : Int32).toInt then c2_ownLimit_v f k8 x else (if (c2_ownLimit_v f k8 x).toInt < ((c2_worstCell_a8 f x k8).2).toInt then c2_ownLimit_v f k8 x else (c2_worstCell_a8 f x k8).2))), some (.inl ((Int32.ofNat k8) + (1 : Int32))), some (.inl (c2_ownLimit_v f k8 x))]) (st' := []) (m' := (f, l)) rfl rfl (fl_bo rfl) rfl ?_
    have ea : c2_worstCell_a8 f x (k8 + 1) = (if ((c2_worstCell_a8 f x k8).1).toInt = (-1 : Int32).toInt then Int32.ofNat k8 else (if (c2_ownLimit_v f k8 x).toInt < ((c2_worstCell_a8 f x k8).2).toInt then Int32.ofNat k8 else (c2_worstCell_a8 f x k8).1), if ((c2_worstCell_a8 f x k8).1).toInt = (-1 : Int32).toInt then c2_ownLimit_v f k8 x else (if (c2_ownLimit_v f k8 x).toInt < ((c2_worstCell_a8 f x k8).2).toInt then c2_ownLimit_v f k8 x else (c2_worstCell_a8 f x k8).2)) := by
      show ((if ((c2_worstCell_a8 f x k8).1).toInt = (-1 : Int32).toInt then Int32.ofNat k8 else (if (c2_ownLimit_v f k8 x).toInt < ((c2_worstCell_a8 f x k8).2).toInt then Int32.ofNat k8 else (c2_worstCell_a8 f x k8).1), if ((c2_worstCell_a8 f x k8).1).toInt = (-1 : Int32).toInt then c2_ownLimit_v f k8 x else (if (c2_ownLimit_v f k8 x).toInt < ((c2_worstCell_a8 f x k8).2).toInt then c2_ownLimit_v f k8 x else (c2_worstCell_a8 f x k8).2))) = _
      rfl
    rw [ea, ← t2_k1] at hS
    exact fl_Tq.fg hS ⟨rfl, rfl, rfl, rfl, rfl, True.intro⟩
  refine t2_for (S := fun k8 => fl_Tq (pw_P L xs) 51 8 [some (.inr (.inr (.inl (49, 181)))), some (.inl x), some (.inl ((c2_worstCell_a8 f x k8).1)), some (.inl ((c2_worstCell_a8 f x k8).2)), some (.inl (Int32.ofNat k8)), none] [] (f, l) Q) hs8 ?_
  show fl_Tq (pw_P L xs) 51 8 [some (.inr (.inr (.inl (49, 181)))), some (.inl x), some (.inl ((c2_worstCell_a8 f x ((f 181 5).toInt.toNat)).1)), some (.inl ((c2_worstCell_a8 f x ((f 181 5).toInt.toNat)).2)), some (.inl (Int32.ofNat ((f 181 5).toInt.toNat))), none] [] (f, l) _
  refine fl_Tq.stp (pc' := 10) (lv' := [some (.inr (.inr (.inl (49, 181)))), some (.inl x), some (.inl ((c2_worstCell_a8 f x ((f 181 5).toInt.toNat)).1)), some (.inl ((c2_worstCell_a8 f x ((f 181 5).toInt.toNat)).2)), some (.inl (Int32.ofNat ((f 181 5).toInt.toNat))), none]) (st' := [.inl (Int32.ofNat ((f 181 5).toInt.toNat))]) (m' := (f, l)) rfl rfl (fl_bo rfl) rfl ?_
  refine fl_Tq.stp (pc' := 11) (lv' := [some (.inr (.inr (.inl (49, 181)))), some (.inl x), some (.inl ((c2_worstCell_a8 f x ((f 181 5).toInt.toNat)).1)), some (.inl ((c2_worstCell_a8 f x ((f 181 5).toInt.toNat)).2)), some (.inl (Int32.ofNat ((f 181 5).toInt.toNat))), none]) (st' := [.inr (.inr (.inl (49, 181))), .inl (Int32.ofNat ((f 181 5).toInt.toNat))]) (m' := (f, l)) rfl rfl (fl_bo rfl) rfl ?_
  refine fl_Tq.gfV (k := 5) (v := f 181 5) rfl (fl_bo rfl) rfl rfl ?_
  refine fl_Tq.jt rfl (fl_bo rfl) (c2_ge_t (t2_ln (t2_nn hc.1))) rfl ?_
  refine fl_Tq.stp (pc' := 58) (lv' := [some (.inr (.inr (.inl (49, 181)))), some (.inl x), some (.inl ((c2_worstCell_a8 f x ((f 181 5).toInt.toNat)).1)), some (.inl ((c2_worstCell_a8 f x ((f 181 5).toInt.toNat)).2)), some (.inl (Int32.ofNat ((f 181 5).toInt.toNat))), none]) (st' := [.inl ((c2_worstCell_a8 f x ((f 181 5).toInt.toNat)).1)]) (m' := (f, l)) rfl rfl (fl_bo rfl) rfl ?_
  exact fl_Tq.ret rfl rfl rfl k
noncomputable def c2_moveBus_j16_0 (f : t2_F)  : Int32 := if (c2_areActual_v f (5 : Int32)).toInt = 0 then (if (c2_areActual_v f (3 : Int32)).toInt = 0 then t2_fdiv_v (f 181 8) (2 : Int32) else t2_max_v (((f 181 8) + (((t2_max_v ((c2_packAt_v f (0 : Int32)) - (f 181 8)) (0 : Int32)) + (3 : Int32)) / (4 : Int32))) - (f 184 7)) (0 : Int32)) else c2_packAt_v f (0 : Int32)
noncomputable def c2_moveBus_v (f : t2_F) : Int32 := if (f 181 7).toInt = (1 : Int32).toInt then (if ((c2_moveBus_j16_0 f) * (1000 : Int32)).toInt < ((950 : Int32) * (c2_packAt_v f (0 : Int32))).toInt then (if ((c2_moveBus_j16_0 f) - (f 181 8)).toInt < (f 184 8).toInt then (1 : Int32) else (0 : Int32)) else (0 : Int32)) else (0 : Int32)
noncomputable def c2_moveBus_m (f : t2_F) : t2_F := if (f 181 7).toInt = (1 : Int32).toInt then (if ((c2_moveBus_j16_0 f) * (1000 : Int32)).toInt < ((950 : Int32) * (c2_packAt_v f (0 : Int32))).toInt then (if ((c2_moveBus_j16_0 f) - (f 181 8)).toInt < (f 184 8).toInt then fl_row f 181 (upd (f 181) 8 (c2_moveBus_j16_0 f)) else fl_row f 181 (upd (f 181) 8 (c2_moveBus_j16_0 f))) else fl_row f 181 (upd (upd (f 181) 8 (c2_moveBus_j16_0 f)) 7 (2 : Int32))) else fl_row f 181 (upd (f 181) 8 (c2_moveBus_j16_0 f))
theorem c2_moveBus_fr {f : t2_F}  {p : Nat} (e0 : p ≠ 181) : c2_moveBus_m f p = f p := by
  unfold c2_moveBus_m
  repeat' split
  all_goals first | rfl | simp only [fl_row_ne e0]
theorem c2_moveBus_q {L : Nat} {xs : Nat → Int32} {f : t2_F} {l : t2_L} {Q : Option fl_V → fl_M → Prop}  (hc : 0 ≤ (f 181 5).toInt ∧ (f 181 5).toInt ≤ 16) (k : Q (some (.inl (c2_moveBus_v f))) (c2_moveBus_m f, l)) : fl_Tq (pw_P L xs) 58 0 (fl_args (am_mxl (pw_P L xs) 58) [.inr (.inr (.inl (49, 181)))]) [] (f, l) Q := by
  refine fl_Tq.stp (pc' := 1) (lv' := [some (.inr (.inr (.inl (49, 181)))), none, none, none]) (st' := [.inr (.inr (.inl (49, 181)))]) (m' := (f, l)) rfl rfl (fl_bo rfl) rfl ?_
  refine fl_Tq.gfV (k := 8) (v := f 181 8) rfl (fl_bo rfl) rfl rfl ?_
  refine fl_Tq.stp (pc' := 5) (lv' := [some (.inr (.inr (.inl (49, 181)))), some (.inl (f 181 8)), none, none]) (st' := []) (m' := (f, l)) rfl rfl (fl_bo rfl) rfl ?_
  refine fl_Tq.stp (pc' := 6) (lv' := [some (.inr (.inr (.inl (49, 181)))), some (.inl (f 181 8)), none, none]) (st' := [.inr (.inr (.inl (49, 181)))]) (m' := (f, l)) rfl rfl (fl_bo rfl) rfl ?_
  refine fl_Tq.cI (c := (0 : Int32)) rfl (by decide +kernel) (fl_bo rfl) ?_
  refine fl_Tq.cal rfl rfl (fl_bo rfl) rfl ?_
  refine c2_packAt_q hc ?_
  show fl_Tq _ 58 10 [some (.inr (.inr (.inl (49, 181)))), some (.inl (f 181 8)), none, none] [.inl (c2_packAt_v f (0 : Int32))] (f, l) _
  refine fl_Tq.stp (pc' := 11) (lv' := [some (.inr (.inr (.inl (49, 181)))), some (.inl (f 181 8)), some (.inl (c2_packAt_v f (0 : Int32))), none]) (st' := []) (m' := (f, l)) rfl rfl (fl_bo rfl) rfl ?_
  refine fl_Tq.stp (pc' := 12) (lv' := [some (.inr (.inr (.inl (49, 181)))), some (.inl (f 181 8)), some (.inl (c2_packAt_v f (0 : Int32))), none]) (st' := [.inr (.inr (.inl (49, 181)))]) (m' := (f, l)) rfl rfl (fl_bo rfl) rfl ?_
  refine fl_Tq.cI (c := (5 : Int32)) rfl (by decide +kernel) (fl_bo rfl) ?_
  refine fl_Tq.cal rfl rfl (fl_bo rfl) rfl ?_
  refine c2_areActual_q  ?_
  show fl_Tq _ 58 16 [some (.inr (.inr (.inl (49, 181)))), some (.inl (f 181 8)), some (.inl (c2_packAt_v f (0 : Int32))), none] [.inl (c2_areActual_v f (5 : Int32))] (f, l) _
  have hj50 : fl_Tq (pw_P L xs) 58 90 [some (.inr (.inr (.inl (49, 181)))), some (.inl (f 181 8)), some (.inl (c2_packAt_v f (0 : Int32))), none] [] (fl_row f 181 (upd (f 181) 8 (c2_moveBus_j16_0 f)), l) Q → fl_Tq (pw_P L xs) 58 16 [some (.inr (.inr (.inl (49, 181)))), some (.inl (f 181 8)), some (.inl (c2_packAt_v f (0 : Int32))), none] [.inl (c2_areActual_v f (5 : Int32))] (f, l) Q := by
    intro hJ
    by_cases h1 : (c2_areActual_v f (5 : Int32)).toInt = 0
    · refine fl_Tq.zt rfl (fl_bo rfl) (c1_eq_t h1) rfl ?_
      refine fl_Tq.stp (pc' := 28) (lv' := [some (.inr (.inr (.inl (49, 181)))), some (.inl (f 181 8)), some (.inl (c2_packAt_v f (0 : Int32))), none]) (st' := [.inr (.inr (.inl (49, 181)))]) (m' := (f, l)) rfl rfl (fl_bo rfl) rfl ?_
      refine fl_Tq.cI (c := (3 : Int32)) rfl (by decide +kernel) (fl_bo rfl) ?_
      refine fl_Tq.cal rfl rfl (fl_bo rfl) rfl ?_
      refine c2_areActual_q  ?_
      show fl_Tq _ 58 32 [some (.inr (.inr (.inl (49, 181)))), some (.inl (f 181 8)), some (.inl (c2_packAt_v f (0 : Int32))), none] [.inl (c2_areActual_v f (3 : Int32))] (f, l) _
      by_cases h2 : (c2_areActual_v f (3 : Int32)).toInt = 0
      · refine fl_Tq.zt rfl (fl_bo rfl) (c1_eq_t h2) rfl ?_
        refine fl_Tq.stp (pc' := 79) (lv' := [some (.inr (.inr (.inl (49, 181)))), some (.inl (f 181 8)), some (.inl (c2_packAt_v f (0 : Int32))), none]) (st' := [.inr (.inr (.inl (49, 181)))]) (m' := (f, l)) rfl rfl (fl_bo rfl) rfl ?_
        refine fl_Tq.stp (pc' := 80) (lv' := [some (.inr (.inr (.inl (49, 181)))), some (.inl (f 181 8)), some (.inl (c2_packAt_v f (0 : Int32))), none]) (st' := [.inr (.inr (.inl (49, 181))), .inr (.inr (.inl (49, 181)))]) (m' := (f, l)) rfl rfl (fl_bo rfl) rfl ?_
        refine fl_Tq.gfV (k := 8) (v := f 181 8) rfl (fl_bo rfl) rfl rfl ?_
        refine fl_Tq.cI (c := (2 : Int32)) rfl (by decide +kernel) (fl_bo rfl) ?_
        refine fl_Tq.cal rfl rfl (fl_bo rfl) rfl ?_
        refine t2_fdiv_q (by decide +kernel) ?_
        show fl_Tq _ 58 87 [some (.inr (.inr (.inl (49, 181)))), some (.inl (f 181 8)), some (.inl (c2_packAt_v f (0 : Int32))), none] [.inl (t2_fdiv_v (f 181 8) (2 : Int32)), .inr (.inr (.inl (49, 181)))] (f, l) _
        refine fl_Tq.pfV (k := 8) (m' := (fl_row f 181 (upd (f 181) 8 (t2_fdiv_v (f 181 8) (2 : Int32))), l)) rfl (fl_bo rfl) rfl (t2_upn rfl) ?_
        have e0 : (fl_row f 181 (upd (f 181) 8 (c2_moveBus_j16_0 f))) = fl_row f 181 (upd (f 181) 8 (t2_fdiv_v (f 181 8) (2 : Int32))) := by
          simp only [c2_moveBus_j16_0, if_pos h1, if_pos h2]
        rw [e0] at hJ
        exact hJ
      · refine fl_Tq.zf rfl (fl_bo rfl) (c1_eq_f h2) rfl ?_
        refine fl_Tq.stp (pc' := 36) (lv' := [some (.inr (.inr (.inl (49, 181)))), some (.inl (f 181 8)), some (.inl (c2_packAt_v f (0 : Int32))), none]) (st' := [.inl (c2_packAt_v f (0 : Int32))]) (m' := (f, l)) rfl rfl (fl_bo rfl) rfl ?_
        refine fl_Tq.stp (pc' := 37) (lv' := [some (.inr (.inr (.inl (49, 181)))), some (.inl (f 181 8)), some (.inl (c2_packAt_v f (0 : Int32))), none]) (st' := [.inr (.inr (.inl (49, 181))), .inl (c2_packAt_v f (0 : Int32))]) (m' := (f, l)) rfl rfl (fl_bo rfl) rfl ?_
        refine fl_Tq.gfV (k := 8) (v := f 181 8) rfl (fl_bo rfl) rfl rfl ?_
        refine fl_Tq.stp (pc' := 41) (lv' := [some (.inr (.inr (.inl (49, 181)))), some (.inl (f 181 8)), some (.inl (c2_packAt_v f (0 : Int32))), none]) (st' := [.inl ((c2_packAt_v f (0 : Int32)) - (f 181 8))]) (m' := (f, l)) rfl rfl (fl_bo rfl) rfl ?_
        refine fl_Tq.cI (c := (0 : Int32)) rfl (by decide +kernel) (fl_bo rfl) ?_
        refine fl_Tq.cal rfl rfl (fl_bo rfl) rfl ?_
        refine t2_max_q  ?_
        show fl_Tq _ 58 45 [some (.inr (.inr (.inl (49, 181)))), some (.inl (f 181 8)), some (.inl (c2_packAt_v f (0 : Int32))), none] [.inl (t2_max_v ((c2_packAt_v f (0 : Int32)) - (f 181 8)) (0 : Int32))] (f, l) _
        refine fl_Tq.cI (c := (3 : Int32)) rfl (by decide +kernel) (fl_bo rfl) ?_
        refine fl_Tq.stp (pc' := 47) (lv' := [some (.inr (.inr (.inl (49, 181)))), some (.inl (f 181 8)), some (.inl (c2_packAt_v f (0 : Int32))), none]) (st' := [.inl ((t2_max_v ((c2_packAt_v f (0 : Int32)) - (f 181 8)) (0 : Int32)) + (3 : Int32))]) (m' := (f, l)) rfl rfl (fl_bo rfl) rfl ?_
        refine fl_Tq.cI (c := (4 : Int32)) rfl (by decide +kernel) (fl_bo rfl) ?_
        refine fl_Tq.dv rfl (fl_bo rfl) (by decide +kernel) ?_
        refine fl_Tq.stp (pc' := 50) (lv' := [some (.inr (.inr (.inl (49, 181)))), some (.inl (f 181 8)), some (.inl (c2_packAt_v f (0 : Int32))), some (.inl (((t2_max_v ((c2_packAt_v f (0 : Int32)) - (f 181 8)) (0 : Int32)) + (3 : Int32)) / (4 : Int32)))]) (st' := []) (m' := (f, l)) rfl rfl (fl_bo rfl) rfl ?_
        refine fl_Tq.stp (pc' := 51) (lv' := [some (.inr (.inr (.inl (49, 181)))), some (.inl (f 181 8)), some (.inl (c2_packAt_v f (0 : Int32))), some (.inl (((t2_max_v ((c2_packAt_v f (0 : Int32)) - (f 181 8)) (0 : Int32)) + (3 : Int32)) / (4 : Int32)))]) (st' := [.inr (.inr (.inl (49, 181)))]) (m' := (f, l)) rfl rfl (fl_bo rfl) rfl ?_
        refine fl_Tq.stp (pc' := 52) (lv' := [some (.inr (.inr (.inl (49, 181)))), some (.inl (f 181 8)), some (.inl (c2_packAt_v f (0 : Int32))), some (.inl (((t2_max_v ((c2_packAt_v f (0 : Int32)) - (f 181 8)) (0 : Int32)) + (3 : Int32)) / (4 : Int32)))]) (st' := [.inr (.inr (.inl (49, 181))), .inr (.inr (.inl (49, 181)))]) (m' := (f, l)) rfl rfl (fl_bo rfl) rfl ?_
        refine fl_Tq.gfV (k := 8) (v := f 181 8) rfl (fl_bo rfl) rfl rfl ?_
        refine fl_Tq.stp (pc' := 56) (lv' := [some (.inr (.inr (.inl (49, 181)))), some (.inl (f 181 8)), some (.inl (c2_packAt_v f (0 : Int32))), some (.inl (((t2_max_v ((c2_packAt_v f (0 : Int32)) - (f 181 8)) (0 : Int32)) + (3 : Int32)) / (4 : Int32)))]) (st' := [.inl (((t2_max_v ((c2_packAt_v f (0 : Int32)) - (f 181 8)) (0 : Int32)) + (3 : Int32)) / (4 : Int32)), .inl (f 181 8), .inr (.inr (.inl (49, 181)))]) (m' := (f, l)) rfl rfl (fl_bo rfl) rfl ?_
        refine fl_Tq.stp (pc' := 57) (lv' := [some (.inr (.inr (.inl (49, 181)))), some (.inl (f 181 8)), some (.inl (c2_packAt_v f (0 : Int32))), some (.inl (((t2_max_v ((c2_packAt_v f (0 : Int32)) - (f 181 8)) (0 : Int32)) + (3 : Int32)) / (4 : Int32)))]) (st' := [.inl ((f 181 8) + (((t2_max_v ((c2_packAt_v f (0 : Int32)) - (f 181 8)) (0 : Int32)) + (3 : Int32)) / (4 : Int32))), .inr (.inr (.inl (49, 181)))]) (m' := (f, l)) rfl rfl (fl_bo rfl) rfl ?_
        refine fl_Tq.stp (pc' := 58) (lv' := [some (.inr (.inr (.inl (49, 181)))), some (.inl (f 181 8)), some (.inl (c2_packAt_v f (0 : Int32))), some (.inl (((t2_max_v ((c2_packAt_v f (0 : Int32)) - (f 181 8)) (0 : Int32)) + (3 : Int32)) / (4 : Int32)))]) (st' := [.inr (.inr (.inl (49, 181))), .inl ((f 181 8) + (((t2_max_v ((c2_packAt_v f (0 : Int32)) - (f 181 8)) (0 : Int32)) + (3 : Int32)) / (4 : Int32))), .inr (.inr (.inl (49, 181)))]) (m' := (f, l)) rfl rfl (fl_bo rfl) rfl ?_
        refine fl_Tq.stp (pc' := 61) (lv' := [some (.inr (.inr (.inl (49, 181)))), some (.inl (f 181 8)), some (.inl (c2_packAt_v f (0 : Int32))), some (.inl (((t2_max_v ((c2_packAt_v f (0 : Int32)) - (f 181 8)) (0 : Int32)) + (3 : Int32)) / (4 : Int32)))]) (st' := [.inr (.inr (.inl (51, 183))), .inl ((f 181 8) + (((t2_max_v ((c2_packAt_v f (0 : Int32)) - (f 181 8)) (0 : Int32)) + (3 : Int32)) / (4 : Int32))), .inr (.inr (.inl (49, 181)))]) (m' := (f, l)) rfl rfl (fl_bo rfl) rfl ?_
        refine fl_Tq.stp (pc' := 64) (lv' := [some (.inr (.inr (.inl (49, 181)))), some (.inl (f 181 8)), some (.inl (c2_packAt_v f (0 : Int32))), some (.inl (((t2_max_v ((c2_packAt_v f (0 : Int32)) - (f 181 8)) (0 : Int32)) + (3 : Int32)) / (4 : Int32)))]) (st' := [.inr (.inr (.inl (52, 184))), .inl ((f 181 8) + (((t2_max_v ((c2_packAt_v f (0 : Int32)) - (f 181 8)) (0 : Int32)) + (3 : Int32)) / (4 : Int32))), .inr (.inr (.inl (49, 181)))]) (m' := (f, l)) rfl rfl (fl_bo rfl) rfl ?_
        refine fl_Tq.cB (c := (7 : Int32)) rfl (by decide +kernel) (fl_bo rfl) ?_
        refine fl_Tq.ldV (p := 184) (τ := 52) (n := 30) (z := (0, 0, 0)) (k := 7) (v := f 184 7) rfl (fl_bo rfl) rfl (by decide +kernel) (by decide) rfl ?_
        refine fl_Tq.stp (pc' := 68) (lv' := [some (.inr (.inr (.inl (49, 181)))), some (.inl (f 181 8)), some (.inl (c2_packAt_v f (0 : Int32))), some (.inl (((t2_max_v ((c2_packAt_v f (0 : Int32)) - (f 181 8)) (0 : Int32)) + (3 : Int32)) / (4 : Int32)))]) (st' := [.inl (((f 181 8) + (((t2_max_v ((c2_packAt_v f (0 : Int32)) - (f 181 8)) (0 : Int32)) + (3 : Int32)) / (4 : Int32))) - (f 184 7)), .inr (.inr (.inl (49, 181)))]) (m' := (f, l)) rfl rfl (fl_bo rfl) rfl ?_
        refine fl_Tq.cI (c := (0 : Int32)) rfl (by decide +kernel) (fl_bo rfl) ?_
        refine fl_Tq.cal rfl rfl (fl_bo rfl) rfl ?_
        refine t2_max_q  ?_
        show fl_Tq _ 58 72 [some (.inr (.inr (.inl (49, 181)))), some (.inl (f 181 8)), some (.inl (c2_packAt_v f (0 : Int32))), some (.inl (((t2_max_v ((c2_packAt_v f (0 : Int32)) - (f 181 8)) (0 : Int32)) + (3 : Int32)) / (4 : Int32)))] [.inl (t2_max_v (((f 181 8) + (((t2_max_v ((c2_packAt_v f (0 : Int32)) - (f 181 8)) (0 : Int32)) + (3 : Int32)) / (4 : Int32))) - (f 184 7)) (0 : Int32)), .inr (.inr (.inl (49, 181)))] (f, l) _
        refine fl_Tq.pfV (k := 8) (m' := (fl_row f 181 (upd (f 181) 8 (t2_max_v (((f 181 8) + (((t2_max_v ((c2_packAt_v f (0 : Int32)) - (f 181 8)) (0 : Int32)) + (3 : Int32)) / (4 : Int32))) - (f 184 7)) (0 : Int32))), l)) rfl (fl_bo rfl) rfl (t2_upn rfl) ?_
        refine fl_Tq.stp (pc' := 90) (lv' := [some (.inr (.inr (.inl (49, 181)))), some (.inl (f 181 8)), some (.inl (c2_packAt_v f (0 : Int32))), some (.inl (((t2_max_v ((c2_packAt_v f (0 : Int32)) - (f 181 8)) (0 : Int32)) + (3 : Int32)) / (4 : Int32)))]) (st' := []) (m' := (fl_row f 181 (upd (f 181) 8 (t2_max_v (((f 181 8) + (((t2_max_v ((c2_packAt_v f (0 : Int32)) - (f 181 8)) (0 : Int32)) + (3 : Int32)) / (4 : Int32))) - (f 184 7)) (0 : Int32))), l)) rfl rfl (fl_bo rfl) rfl ?_
        have e0 : (fl_row f 181 (upd (f 181) 8 (c2_moveBus_j16_0 f))) = fl_row f 181 (upd (f 181) 8 (t2_max_v (((f 181 8) + (((t2_max_v ((c2_packAt_v f (0 : Int32)) - (f 181 8)) (0 : Int32)) + (3 : Int32)) / (4 : Int32))) - (f 184 7)) (0 : Int32))) := by
          simp only [c2_moveBus_j16_0, if_pos h1, if_neg h2]
        rw [e0] at hJ
        exact fl_Tq.fg hJ ⟨rfl, rfl, rfl, True.intro⟩
    · refine fl_Tq.zf rfl (fl_bo rfl) (c1_eq_f h1) rfl ?_
      refine fl_Tq.stp (pc' := 20) (lv' := [some (.inr (.inr (.inl (49, 181)))), some (.inl (f 181 8)), some (.inl (c2_packAt_v f (0 : Int32))), none]) (st' := [.inr (.inr (.inl (49, 181)))]) (m' := (f, l)) rfl rfl (fl_bo rfl) rfl ?_
      refine fl_Tq.stp (pc' := 21) (lv' := [some (.inr (.inr (.inl (49, 181)))), some (.inl (f 181 8)), some (.inl (c2_packAt_v f (0 : Int32))), none]) (st' := [.inl (c2_packAt_v f (0 : Int32)), .inr (.inr (.inl (49, 181)))]) (m' := (f, l)) rfl rfl (fl_bo rfl) rfl ?_
      refine fl_Tq.pfV (k := 8) (m' := (fl_row f 181 (upd (f 181) 8 (c2_packAt_v f (0 : Int32))), l)) rfl (fl_bo rfl) rfl (t2_upn rfl) ?_
      refine fl_Tq.stp (pc' := 90) (lv' := [some (.inr (.inr (.inl (49, 181)))), some (.inl (f 181 8)), some (.inl (c2_packAt_v f (0 : Int32))), none]) (st' := []) (m' := (fl_row f 181 (upd (f 181) 8 (c2_packAt_v f (0 : Int32))), l)) rfl rfl (fl_bo rfl) rfl ?_
      have e0 : (fl_row f 181 (upd (f 181) 8 (c2_moveBus_j16_0 f))) = fl_row f 181 (upd (f 181) 8 (c2_packAt_v f (0 : Int32))) := by
        simp only [c2_moveBus_j16_0, if_neg h1]
      rw [e0] at hJ
      exact hJ
  refine hj50 ?_
  show fl_Tq _ 58 90 [some (.inr (.inr (.inl (49, 181)))), some (.inl (f 181 8)), some (.inl (c2_packAt_v f (0 : Int32))), none] [] (fl_row f 181 (upd (f 181) 8 (c2_moveBus_j16_0 f)), l) _
  refine fl_Tq.stp (pc' := 91) (lv' := [some (.inr (.inr (.inl (49, 181)))), some (.inl (f 181 8)), some (.inl (c2_packAt_v f (0 : Int32))), none]) (st' := [.inr (.inr (.inl (49, 181)))]) (m' := (fl_row f 181 (upd (f 181) 8 (c2_moveBus_j16_0 f)), l)) rfl rfl (fl_bo rfl) rfl ?_
  refine fl_Tq.gfV (k := 7) (v := f 181 7) rfl (fl_bo rfl) rfl (by simp only [fl_row_self, upd_ne (by decide : 7 ≠ 8)]) ?_
  refine fl_Tq.cI (c := (1 : Int32)) rfl (by decide +kernel) (fl_bo rfl) ?_
  by_cases h3 : (f 181 7).toInt = (1 : Int32).toInt
  · refine fl_Tq.jt rfl (fl_bo rfl) (c2_eq_t h3) rfl ?_
    refine fl_Tq.stp (pc' := 101) (lv' := [some (.inr (.inr (.inl (49, 181)))), some (.inl (f 181 8)), some (.inl (c2_packAt_v f (0 : Int32))), none]) (st' := [.inr (.inr (.inl (49, 181)))]) (m' := (fl_row f 181 (upd (f 181) 8 (c2_moveBus_j16_0 f)), l)) rfl rfl (fl_bo rfl) rfl ?_
    refine fl_Tq.gfV (k := 8) (v := c2_moveBus_j16_0 f) rfl (fl_bo rfl) rfl (by simp only [fl_row_self, upd_self]) ?_
    refine fl_Tq.cS (c := (1000 : Int32)) rfl (by decide +kernel) (fl_bo rfl) ?_
    refine fl_Tq.stp (pc' := 108) (lv' := [some (.inr (.inr (.inl (49, 181)))), some (.inl (f 181 8)), some (.inl (c2_packAt_v f (0 : Int32))), none]) (st' := [.inl ((c2_moveBus_j16_0 f) * (1000 : Int32))]) (m' := (fl_row f 181 (upd (f 181) 8 (c2_moveBus_j16_0 f)), l)) rfl rfl (fl_bo rfl) rfl ?_
    refine fl_Tq.cS (c := (950 : Int32)) rfl (by decide +kernel) (fl_bo rfl) ?_
    refine fl_Tq.stp (pc' := 112) (lv' := [some (.inr (.inr (.inl (49, 181)))), some (.inl (f 181 8)), some (.inl (c2_packAt_v f (0 : Int32))), none]) (st' := [.inl (c2_packAt_v f (0 : Int32)), .inl (950 : Int32), .inl ((c2_moveBus_j16_0 f) * (1000 : Int32))]) (m' := (fl_row f 181 (upd (f 181) 8 (c2_moveBus_j16_0 f)), l)) rfl rfl (fl_bo rfl) rfl ?_
    refine fl_Tq.stp (pc' := 113) (lv' := [some (.inr (.inr (.inl (49, 181)))), some (.inl (f 181 8)), some (.inl (c2_packAt_v f (0 : Int32))), none]) (st' := [.inl ((950 : Int32) * (c2_packAt_v f (0 : Int32))), .inl ((c2_moveBus_j16_0 f) * (1000 : Int32))]) (m' := (fl_row f 181 (upd (f 181) 8 (c2_moveBus_j16_0 f)), l)) rfl rfl (fl_bo rfl) rfl ?_
    by_cases h4 : ((c2_moveBus_j16_0 f) * (1000 : Int32)).toInt < ((950 : Int32) * (c2_packAt_v f (0 : Int32))).toInt
    · refine fl_Tq.jt rfl (fl_bo rfl) (c2_lt_t h4) rfl ?_
      refine fl_Tq.stp (pc' := 124) (lv' := [some (.inr (.inr (.inl (49, 181)))), some (.inl (f 181 8)), some (.inl (c2_packAt_v f (0 : Int32))), none]) (st' := [.inr (.inr (.inl (49, 181)))]) (m' := (fl_row f 181 (upd (f 181) 8 (c2_moveBus_j16_0 f)), l)) rfl rfl (fl_bo rfl) rfl ?_
      refine fl_Tq.gfV (k := 8) (v := c2_moveBus_j16_0 f) rfl (fl_bo rfl) rfl (by simp only [fl_row_self, upd_self]) ?_
      refine fl_Tq.stp (pc' := 128) (lv' := [some (.inr (.inr (.inl (49, 181)))), some (.inl (f 181 8)), some (.inl (c2_packAt_v f (0 : Int32))), none]) (st' := [.inl (f 181 8), .inl (c2_moveBus_j16_0 f)]) (m' := (fl_row f 181 (upd (f 181) 8 (c2_moveBus_j16_0 f)), l)) rfl rfl (fl_bo rfl) rfl ?_
      refine fl_Tq.stp (pc' := 129) (lv' := [some (.inr (.inr (.inl (49, 181)))), some (.inl (f 181 8)), some (.inl (c2_packAt_v f (0 : Int32))), none]) (st' := [.inl ((c2_moveBus_j16_0 f) - (f 181 8))]) (m' := (fl_row f 181 (upd (f 181) 8 (c2_moveBus_j16_0 f)), l)) rfl rfl (fl_bo rfl) rfl ?_
      refine fl_Tq.stp (pc' := 130) (lv' := [some (.inr (.inr (.inl (49, 181)))), some (.inl (f 181 8)), some (.inl (c2_packAt_v f (0 : Int32))), none]) (st' := [.inr (.inr (.inl (49, 181))), .inl ((c2_moveBus_j16_0 f) - (f 181 8))]) (m' := (fl_row f 181 (upd (f 181) 8 (c2_moveBus_j16_0 f)), l)) rfl rfl (fl_bo rfl) rfl ?_
      refine fl_Tq.stp (pc' := 133) (lv' := [some (.inr (.inr (.inl (49, 181)))), some (.inl (f 181 8)), some (.inl (c2_packAt_v f (0 : Int32))), none]) (st' := [.inr (.inr (.inl (51, 183))), .inl ((c2_moveBus_j16_0 f) - (f 181 8))]) (m' := (fl_row f 181 (upd (f 181) 8 (c2_moveBus_j16_0 f)), l)) rfl rfl (fl_bo rfl) rfl ?_
      refine fl_Tq.stp (pc' := 136) (lv' := [some (.inr (.inr (.inl (49, 181)))), some (.inl (f 181 8)), some (.inl (c2_packAt_v f (0 : Int32))), none]) (st' := [.inr (.inr (.inl (52, 184))), .inl ((c2_moveBus_j16_0 f) - (f 181 8))]) (m' := (fl_row f 181 (upd (f 181) 8 (c2_moveBus_j16_0 f)), l)) rfl rfl (fl_bo rfl) rfl ?_
      refine fl_Tq.cB (c := (8 : Int32)) rfl (by decide +kernel) (fl_bo rfl) ?_
      refine fl_Tq.ldV (p := 184) (τ := 52) (n := 30) (z := (0, 0, 0)) (k := 8) (v := f 184 8) rfl (fl_bo rfl) rfl (by decide +kernel) (by decide) (by simp only [fl_row_ne (by decide : 184 ≠ 181)]) ?_
      by_cases h5 : ((c2_moveBus_j16_0 f) - (f 181 8)).toInt < (f 184 8).toInt
      · refine fl_Tq.jf rfl (fl_bo rfl) (c2_ge_f h5) rfl ?_
        refine fl_Tq.cI (c := (1 : Int32)) rfl (by decide +kernel) (fl_bo rfl) ?_
        refine fl_Tq.stp (pc' := 147) (lv' := [some (.inr (.inr (.inl (49, 181)))), some (.inl (f 181 8)), some (.inl (c2_packAt_v f (0 : Int32))), none]) (st' := [.inl (1 : Int32)]) (m' := (fl_row f 181 (upd (f 181) 8 (c2_moveBus_j16_0 f)), l)) rfl rfl (fl_bo rfl) rfl ?_
        refine fl_Tq.ret rfl rfl rfl ?_
        unfold c2_moveBus_v at k
        unfold c2_moveBus_m at k
        simp only [if_pos h3, if_pos h4, if_pos h5] at k
        exact k
      · refine fl_Tq.jt rfl (fl_bo rfl) (c2_ge_t h5) rfl ?_
        refine fl_Tq.cI (c := (0 : Int32)) rfl (by decide +kernel) (fl_bo rfl) ?_
        refine fl_Tq.ret rfl rfl rfl ?_
        unfold c2_moveBus_v at k
        unfold c2_moveBus_m at k
        simp only [if_pos h3, if_pos h4, if_neg h5] at k
        exact k
    · refine fl_Tq.jf rfl (fl_bo rfl) (c2_lt_f h4) rfl ?_
      refine fl_Tq.stp (pc' := 117) (lv' := [some (.inr (.inr (.inl (49, 181)))), some (.inl (f 181 8)), some (.inl (c2_packAt_v f (0 : Int32))), none]) (st' := [.inr (.inr (.inl (49, 181)))]) (m' := (fl_row f 181 (upd (f 181) 8 (c2_moveBus_j16_0 f)), l)) rfl rfl (fl_bo rfl) rfl ?_
      refine fl_Tq.cI (c := (2 : Int32)) rfl (by decide +kernel) (fl_bo rfl) ?_
      refine fl_Tq.pfV (k := 7) (m' := (fl_row f 181 (upd (upd (f 181) 8 (c2_moveBus_j16_0 f)) 7 (2 : Int32)), l)) rfl (fl_bo rfl) rfl (t2_upr) ?_
      refine fl_Tq.cI (c := (0 : Int32)) rfl (by decide +kernel) (fl_bo rfl) ?_
      refine fl_Tq.ret rfl rfl rfl ?_
      unfold c2_moveBus_v at k
      unfold c2_moveBus_m at k
      simp only [if_pos h3, if_neg h4] at k
      exact k
  · refine fl_Tq.jf rfl (fl_bo rfl) (c2_eq_f h3) rfl ?_
    refine fl_Tq.cI (c := (0 : Int32)) rfl (by decide +kernel) (fl_bo rfl) ?_
    refine fl_Tq.ret rfl rfl rfl ?_
    unfold c2_moveBus_v at k
    unfold c2_moveBus_m at k
    simp only [if_neg h3] at k
    exact k
noncomputable def c2_blame_v (x y : Int32) : Int32 := (1 : Int32) <<< (x &&& 31)
noncomputable def c2_blame_m (f : t2_F) (x y : Int32) : t2_F := fl_row f 192 (upd (f 192) x.toInt.toNat y)
theorem c2_blame_fr {f : t2_F} {x y : Int32} {p : Nat} (e0 : p ≠ 192) : c2_blame_m f x y p = f p := by
  unfold c2_blame_m
  repeat' split
  all_goals first | rfl | simp only [fl_row_ne e0]
theorem c2_blame_q {L : Nat} {xs : Nat → Int32} {f : t2_F} {l : t2_L} {Q : Option fl_V → fl_M → Prop} {x y : Int32} (hx : 0 ≤ x.toInt ∧ x.toInt ≤ 3) (k : Q (some (.inl (c2_blame_v x y))) (c2_blame_m f x y, l)) : fl_Tq (pw_P L xs) 95 0 (fl_args (am_mxl (pw_P L xs) 95) [.inr (.inr (.inl (58, 190))), .inl x, .inl y]) [] (f, l) Q := by
  refine fl_Tq.stp (pc' := 1) (lv' := [some (.inr (.inr (.inl (58, 190)))), some (.inl x), some (.inl y)]) (st' := [.inr (.inr (.inl (58, 190)))]) (m' := (f, l)) rfl rfl (fl_bo rfl) rfl ?_
  refine fl_Tq.stp (pc' := 4) (lv' := [some (.inr (.inr (.inl (58, 190)))), some (.inl x), some (.inl y)]) (st' := [.inr (.inr (.inl (60, 192)))]) (m' := (f, l)) rfl rfl (fl_bo rfl) rfl ?_
  refine fl_Tq.stp (pc' := 5) (lv' := [some (.inr (.inr (.inl (58, 190)))), some (.inl x), some (.inl y)]) (st' := [.inl x, .inr (.inr (.inl (60, 192)))]) (m' := (f, l)) rfl rfl (fl_bo rfl) rfl ?_
  refine fl_Tq.stp (pc' := 6) (lv' := [some (.inr (.inr (.inl (58, 190)))), some (.inl x), some (.inl y)]) (st' := [.inl y, .inl x, .inr (.inr (.inl (60, 192)))]) (m' := (f, l)) rfl rfl (fl_bo rfl) rfl ?_
  refine fl_Tq.svV (p := 192) (τ := 60) (n := 4) (z := (0, 0, 0)) (k := x.toInt.toNat) (m' := (fl_row f 192 (upd (f 192) x.toInt.toNat y), l)) rfl (fl_bo rfl) rfl (t2_nn hx.1) (by omega) (t2_upn rfl) ?_
  refine fl_Tq.cI (c := (1 : Int32)) rfl (by decide +kernel) (fl_bo rfl) ?_
  refine fl_Tq.stp (pc' := 9) (lv' := [some (.inr (.inr (.inl (58, 190)))), some (.inl x), some (.inl y)]) (st' := [.inl x, .inl (1 : Int32)]) (m' := (fl_row f 192 (upd (f 192) x.toInt.toNat y), l)) rfl rfl (fl_bo rfl) rfl ?_
  refine fl_Tq.stp (pc' := 10) (lv' := [some (.inr (.inr (.inl (58, 190)))), some (.inl x), some (.inl y)]) (st' := [.inl ((1 : Int32) <<< (x &&& 31))]) (m' := (fl_row f 192 (upd (f 192) x.toInt.toNat y), l)) rfl rfl (fl_bo rfl) rfl ?_
  exact fl_Tq.ret rfl rfl rfl k
noncomputable def c2_leakBit_j2_0 (f : t2_F) (x : Int32) : Int32 := if x.toInt = 0 then (0 : Int32) else t2_min_v ((f 190 5) + (1 : Int32)) (3 : Int32)
noncomputable def c2_leakBit_j27_0 (f : t2_F) (x : Int32) : Int32 := if (c2_leakBit_j2_0 f x).toInt = (3 : Int32).toInt then (64 : Int32) else (0 : Int32)
noncomputable def c2_leakBit_v (f : t2_F) (x : Int32) : Int32 := c2_leakBit_j27_0 f x
noncomputable def c2_leakBit_m (f : t2_F) (x : Int32) : t2_F := fl_row f 190 (upd (f 190) 5 (c2_leakBit_j2_0 f x))
theorem c2_leakBit_fr {f : t2_F} {x : Int32} {p : Nat} (e0 : p ≠ 190) : c2_leakBit_m f x p = f p := by
  unfold c2_leakBit_m
  repeat' split
  all_goals first | rfl | simp only [fl_row_ne e0]
theorem c2_leakBit_q {L : Nat} {xs : Nat → Int32} {f : t2_F} {l : t2_L} {Q : Option fl_V → fl_M → Prop} {x : Int32}  (k : Q (some (.inl (c2_leakBit_v f x))) (c2_leakBit_m f x, l)) : fl_Tq (pw_P L xs) 96 0 (fl_args (am_mxl (pw_P L xs) 96) [.inr (.inr (.inl (58, 190))), .inl x]) [] (f, l) Q := by
  refine fl_Tq.stp (pc' := 1) (lv' := [some (.inr (.inr (.inl (58, 190)))), some (.inl x)]) (st' := [.inr (.inr (.inl (58, 190)))]) (m' := (f, l)) rfl rfl (fl_bo rfl) rfl ?_
  refine fl_Tq.stp (pc' := 2) (lv' := [some (.inr (.inr (.inl (58, 190)))), some (.inl x)]) (st' := [.inl x, .inr (.inr (.inl (58, 190)))]) (m' := (f, l)) rfl rfl (fl_bo rfl) rfl ?_
  have hj51 : fl_Tq (pw_P L xs) 96 19 [some (.inr (.inr (.inl (58, 190)))), some (.inl x)] [.inl (c2_leakBit_j2_0 f x), .inr (.inr (.inl (58, 190)))] (f, l) Q → fl_Tq (pw_P L xs) 96 2 [some (.inr (.inr (.inl (58, 190)))), some (.inl x)] [.inl x, .inr (.inr (.inl (58, 190)))] (f, l) Q := by
    intro hJ
    by_cases h1 : x.toInt = 0
    · refine fl_Tq.zt rfl (fl_bo rfl) (c1_eq_t h1) rfl ?_
      refine fl_Tq.cI (c := (0 : Int32)) rfl (by decide +kernel) (fl_bo rfl) ?_
      have e0 : (c2_leakBit_j2_0 f x) = (0 : Int32) := by simp only [c2_leakBit_j2_0, if_pos h1]
      rw [e0] at hJ
      exact hJ
    · refine fl_Tq.zf rfl (fl_bo rfl) (c1_eq_f h1) rfl ?_
      refine fl_Tq.stp (pc' := 6) (lv' := [some (.inr (.inr (.inl (58, 190)))), some (.inl x)]) (st' := [.inr (.inr (.inl (58, 190))), .inr (.inr (.inl (58, 190)))]) (m' := (f, l)) rfl rfl (fl_bo rfl) rfl ?_
      refine fl_Tq.gfV (k := 5) (v := f 190 5) rfl (fl_bo rfl) rfl rfl ?_
      refine fl_Tq.cI (c := (1 : Int32)) rfl (by decide +kernel) (fl_bo rfl) ?_
      refine fl_Tq.stp (pc' := 11) (lv' := [some (.inr (.inr (.inl (58, 190)))), some (.inl x)]) (st' := [.inl ((f 190 5) + (1 : Int32)), .inr (.inr (.inl (58, 190)))]) (m' := (f, l)) rfl rfl (fl_bo rfl) rfl ?_
      refine fl_Tq.cI (c := (3 : Int32)) rfl (by decide +kernel) (fl_bo rfl) ?_
      refine fl_Tq.cal rfl rfl (fl_bo rfl) rfl ?_
      refine t2_min_q  ?_
      show fl_Tq _ 96 15 [some (.inr (.inr (.inl (58, 190)))), some (.inl x)] [.inl (t2_min_v ((f 190 5) + (1 : Int32)) (3 : Int32)), .inr (.inr (.inl (58, 190)))] (f, l) _
      refine fl_Tq.stp (pc' := 19) (lv' := [some (.inr (.inr (.inl (58, 190)))), some (.inl x)]) (st' := [.inl (t2_min_v ((f 190 5) + (1 : Int32)) (3 : Int32)), .inr (.inr (.inl (58, 190)))]) (m' := (f, l)) rfl rfl (fl_bo rfl) rfl ?_
      have e0 : (c2_leakBit_j2_0 f x) = t2_min_v ((f 190 5) + (1 : Int32)) (3 : Int32) := by simp only [c2_leakBit_j2_0, if_neg h1]
      rw [e0] at hJ
      exact hJ
  refine hj51 ?_
  show fl_Tq _ 96 19 [some (.inr (.inr (.inl (58, 190)))), some (.inl x)] [.inl (c2_leakBit_j2_0 f x), .inr (.inr (.inl (58, 190)))] (f, l) _
  refine fl_Tq.pfV (k := 5) (m' := (fl_row f 190 (upd (f 190) 5 (c2_leakBit_j2_0 f x)), l)) rfl (fl_bo rfl) rfl (t2_upn rfl) ?_
  refine fl_Tq.stp (pc' := 23) (lv' := [some (.inr (.inr (.inl (58, 190)))), some (.inl x)]) (st' := [.inr (.inr (.inl (58, 190)))]) (m' := (fl_row f 190 (upd (f 190) 5 (c2_leakBit_j2_0 f x)), l)) rfl rfl (fl_bo rfl) rfl ?_
  refine fl_Tq.gfV (k := 5) (v := c2_leakBit_j2_0 f x) rfl (fl_bo rfl) rfl (by simp only [fl_row_self, upd_self]) ?_
  refine fl_Tq.cI (c := (3 : Int32)) rfl (by decide +kernel) (fl_bo rfl) ?_
  have hj52 : fl_Tq (pw_P L xs) 96 36 [some (.inr (.inr (.inl (58, 190)))), some (.inl x)] [.inl (c2_leakBit_j27_0 f x)] (fl_row f 190 (upd (f 190) 5 (c2_leakBit_j2_0 f x)), l) Q → fl_Tq (pw_P L xs) 96 27 [some (.inr (.inr (.inl (58, 190)))), some (.inl x)] [.inl (3 : Int32), .inl (c2_leakBit_j2_0 f x)] (fl_row f 190 (upd (f 190) 5 (c2_leakBit_j2_0 f x)), l) Q := by
    intro hJ
    by_cases h2 : (c2_leakBit_j2_0 f x).toInt = (3 : Int32).toInt
    · refine fl_Tq.jf rfl (fl_bo rfl) (c2_ne_f h2) rfl ?_
      refine fl_Tq.cB (c := (64 : Int32)) rfl (by decide +kernel) (fl_bo rfl) ?_
      refine fl_Tq.stp (pc' := 36) (lv' := [some (.inr (.inr (.inl (58, 190)))), some (.inl x)]) (st' := [.inl (64 : Int32)]) (m' := (fl_row f 190 (upd (f 190) 5 (c2_leakBit_j2_0 f x)), l)) rfl rfl (fl_bo rfl) rfl ?_
      have e0 : (c2_leakBit_j27_0 f x) = (64 : Int32) := by simp only [c2_leakBit_j27_0, if_pos h2]
      rw [e0] at hJ
      exact hJ
    · refine fl_Tq.jt rfl (fl_bo rfl) (c2_ne_t h2) rfl ?_
      refine fl_Tq.cI (c := (0 : Int32)) rfl (by decide +kernel) (fl_bo rfl) ?_
      have e0 : (c2_leakBit_j27_0 f x) = (0 : Int32) := by simp only [c2_leakBit_j27_0, if_neg h2]
      rw [e0] at hJ
      exact hJ
  refine hj52 ?_
  show fl_Tq _ 96 36 [some (.inr (.inr (.inl (58, 190)))), some (.inl x)] [.inl (c2_leakBit_j27_0 f x)] (fl_row f 190 (upd (f 190) 5 (c2_leakBit_j2_0 f x)), l) _
  exact fl_Tq.ret rfl rfl rfl k
noncomputable def c2_weldBit0_v : Int32 := (0 : Int32)
noncomputable def c2_weldBit0_m (f : t2_F) : t2_F := fl_row f 190 (upd (f 190) 6 (0 : Int32))
theorem c2_weldBit0_fr {f : t2_F}  {p : Nat} (e0 : p ≠ 190) : c2_weldBit0_m f p = f p := by
  unfold c2_weldBit0_m
  repeat' split
  all_goals first | rfl | simp only [fl_row_ne e0]
theorem c2_weldBit0_q {L : Nat} {xs : Nat → Int32} {f : t2_F} {l : t2_L} {Q : Option fl_V → fl_M → Prop}   (k : Q (some (.inl (c2_weldBit0_v))) (c2_weldBit0_m f, l)) : fl_Tq (pw_P L xs) 97 0 (fl_args (am_mxl (pw_P L xs) 97) [.inr (.inr (.inl (58, 190))), .inl (0 : Int32)]) [] (f, l) Q := by
  refine fl_Tq.stp (pc' := 1) (lv' := [some (.inr (.inr (.inl (58, 190)))), some (.inl (0 : Int32)), none]) (st' := [.inl (0 : Int32)]) (m' := (f, l)) rfl rfl (fl_bo rfl) rfl ?_
  refine fl_Tq.zt rfl (fl_bo rfl) (c1_eq_t (by decide +kernel)) rfl ?_
  refine fl_Tq.cI (c := (0 : Int32)) rfl (by decide +kernel) (fl_bo rfl) ?_
  refine fl_Tq.stp (pc' := 17) (lv' := [some (.inr (.inr (.inl (58, 190)))), some (.inl (0 : Int32)), some (.inl (0 : Int32))]) (st' := []) (m' := (f, l)) rfl rfl (fl_bo rfl) rfl ?_
  refine fl_Tq.stp (pc' := 18) (lv' := [some (.inr (.inr (.inl (58, 190)))), some (.inl (0 : Int32)), some (.inl (0 : Int32))]) (st' := [.inr (.inr (.inl (58, 190)))]) (m' := (f, l)) rfl rfl (fl_bo rfl) rfl ?_
  refine fl_Tq.stp (pc' := 19) (lv' := [some (.inr (.inr (.inl (58, 190)))), some (.inl (0 : Int32)), some (.inl (0 : Int32))]) (st' := [.inl (0 : Int32), .inr (.inr (.inl (58, 190)))]) (m' := (f, l)) rfl rfl (fl_bo rfl) rfl ?_
  refine fl_Tq.pfV (k := 6) (m' := (fl_row f 190 (upd (f 190) 6 (0 : Int32)), l)) rfl (fl_bo rfl) rfl (t2_upn rfl) ?_
  refine fl_Tq.stp (pc' := 23) (lv' := [some (.inr (.inr (.inl (58, 190)))), some (.inl (0 : Int32)), some (.inl (0 : Int32))]) (st' := [.inl (0 : Int32)]) (m' := (fl_row f 190 (upd (f 190) 6 (0 : Int32)), l)) rfl rfl (fl_bo rfl) rfl ?_
  refine fl_Tq.zt rfl (fl_bo rfl) (c1_eq_t (by decide +kernel)) rfl ?_
  refine fl_Tq.cI (c := (0 : Int32)) rfl (by decide +kernel) (fl_bo rfl) ?_
  exact fl_Tq.ret rfl rfl rfl k
noncomputable def c2_weldBit1_j8_0 (f : t2_F)  : Int32 := if (f 190 6).toInt = 0 then (0 : Int32) else (1 : Int32)
noncomputable def c2_weldBit1_j23_0 (f : t2_F)  : Int32 := if (c2_weldBit1_j8_0 f).toInt = 0 then (0 : Int32) else (256 : Int32)
noncomputable def c2_weldBit1_v (f : t2_F) : Int32 := c2_weldBit1_j23_0 f
noncomputable def c2_weldBit1_m (f : t2_F) : t2_F := fl_row f 190 (upd (f 190) 6 (1 : Int32))
theorem c2_weldBit1_fr {f : t2_F}  {p : Nat} (e0 : p ≠ 190) : c2_weldBit1_m f p = f p := by
  unfold c2_weldBit1_m
  repeat' split
  all_goals first | rfl | simp only [fl_row_ne e0]
theorem c2_weldBit1_q {L : Nat} {xs : Nat → Int32} {f : t2_F} {l : t2_L} {Q : Option fl_V → fl_M → Prop}   (k : Q (some (.inl (c2_weldBit1_v f))) (c2_weldBit1_m f, l)) : fl_Tq (pw_P L xs) 97 0 (fl_args (am_mxl (pw_P L xs) 97) [.inr (.inr (.inl (58, 190))), .inl (1 : Int32)]) [] (f, l) Q := by
  refine fl_Tq.stp (pc' := 1) (lv' := [some (.inr (.inr (.inl (58, 190)))), some (.inl (1 : Int32)), none]) (st' := [.inl (1 : Int32)]) (m' := (f, l)) rfl rfl (fl_bo rfl) rfl ?_
  refine fl_Tq.zf rfl (fl_bo rfl) (c1_eq_f (by decide +kernel)) rfl ?_
  refine fl_Tq.stp (pc' := 5) (lv' := [some (.inr (.inr (.inl (58, 190)))), some (.inl (1 : Int32)), none]) (st' := [.inr (.inr (.inl (58, 190)))]) (m' := (f, l)) rfl rfl (fl_bo rfl) rfl ?_
  refine fl_Tq.gfV (k := 6) (v := f 190 6) rfl (fl_bo rfl) rfl rfl ?_
  have hj53 : fl_Tq (pw_P L xs) 97 16 [some (.inr (.inr (.inl (58, 190)))), some (.inl (1 : Int32)), none] [.inl (c2_weldBit1_j8_0 f)] (f, l) Q → fl_Tq (pw_P L xs) 97 8 [some (.inr (.inr (.inl (58, 190)))), some (.inl (1 : Int32)), none] [.inl (f 190 6)] (f, l) Q := by
    intro hJ
    by_cases h1 : (f 190 6).toInt = 0
    · refine fl_Tq.zt rfl (fl_bo rfl) (c1_eq_t h1) rfl ?_
      refine fl_Tq.cI (c := (0 : Int32)) rfl (by decide +kernel) (fl_bo rfl) ?_
      have e0 : (c2_weldBit1_j8_0 f) = (0 : Int32) := by simp only [c2_weldBit1_j8_0, if_pos h1]
      rw [e0] at hJ
      exact hJ
    · refine fl_Tq.zf rfl (fl_bo rfl) (c1_eq_f h1) rfl ?_
      refine fl_Tq.cI (c := (1 : Int32)) rfl (by decide +kernel) (fl_bo rfl) ?_
      refine fl_Tq.stp (pc' := 16) (lv' := [some (.inr (.inr (.inl (58, 190)))), some (.inl (1 : Int32)), none]) (st' := [.inl (1 : Int32)]) (m' := (f, l)) rfl rfl (fl_bo rfl) rfl ?_
      have e0 : (c2_weldBit1_j8_0 f) = (1 : Int32) := by simp only [c2_weldBit1_j8_0, if_neg h1]
      rw [e0] at hJ
      exact hJ
  refine hj53 ?_
  show fl_Tq _ 97 16 [some (.inr (.inr (.inl (58, 190)))), some (.inl (1 : Int32)), none] [.inl (c2_weldBit1_j8_0 f)] (f, l) _
  refine fl_Tq.stp (pc' := 17) (lv' := [some (.inr (.inr (.inl (58, 190)))), some (.inl (1 : Int32)), some (.inl (c2_weldBit1_j8_0 f))]) (st' := []) (m' := (f, l)) rfl rfl (fl_bo rfl) rfl ?_
  refine fl_Tq.stp (pc' := 18) (lv' := [some (.inr (.inr (.inl (58, 190)))), some (.inl (1 : Int32)), some (.inl (c2_weldBit1_j8_0 f))]) (st' := [.inr (.inr (.inl (58, 190)))]) (m' := (f, l)) rfl rfl (fl_bo rfl) rfl ?_
  refine fl_Tq.stp (pc' := 19) (lv' := [some (.inr (.inr (.inl (58, 190)))), some (.inl (1 : Int32)), some (.inl (c2_weldBit1_j8_0 f))]) (st' := [.inl (1 : Int32), .inr (.inr (.inl (58, 190)))]) (m' := (f, l)) rfl rfl (fl_bo rfl) rfl ?_
  refine fl_Tq.pfV (k := 6) (m' := (fl_row f 190 (upd (f 190) 6 (1 : Int32)), l)) rfl (fl_bo rfl) rfl (t2_upn rfl) ?_
  refine fl_Tq.stp (pc' := 23) (lv' := [some (.inr (.inr (.inl (58, 190)))), some (.inl (1 : Int32)), some (.inl (c2_weldBit1_j8_0 f))]) (st' := [.inl (c2_weldBit1_j8_0 f)]) (m' := (fl_row f 190 (upd (f 190) 6 (1 : Int32)), l)) rfl rfl (fl_bo rfl) rfl ?_
  have hj54 : fl_Tq (pw_P L xs) 97 33 [some (.inr (.inr (.inl (58, 190)))), some (.inl (1 : Int32)), some (.inl (c2_weldBit1_j8_0 f))] [.inl (c2_weldBit1_j23_0 f)] (fl_row f 190 (upd (f 190) 6 (1 : Int32)), l) Q → fl_Tq (pw_P L xs) 97 23 [some (.inr (.inr (.inl (58, 190)))), some (.inl (1 : Int32)), some (.inl (c2_weldBit1_j8_0 f))] [.inl (c2_weldBit1_j8_0 f)] (fl_row f 190 (upd (f 190) 6 (1 : Int32)), l) Q := by
    intro hJ
    by_cases h2 : (c2_weldBit1_j8_0 f).toInt = 0
    · refine fl_Tq.zt rfl (fl_bo rfl) (c1_eq_t h2) rfl ?_
      refine fl_Tq.cI (c := (0 : Int32)) rfl (by decide +kernel) (fl_bo rfl) ?_
      have e0 : (c2_weldBit1_j23_0 f) = (0 : Int32) := by simp only [c2_weldBit1_j23_0, if_pos h2]
      rw [e0] at hJ
      exact hJ
    · refine fl_Tq.zf rfl (fl_bo rfl) (c1_eq_f h2) rfl ?_
      refine fl_Tq.cS (c := (256 : Int32)) rfl (by decide +kernel) (fl_bo rfl) ?_
      refine fl_Tq.stp (pc' := 33) (lv' := [some (.inr (.inr (.inl (58, 190)))), some (.inl (1 : Int32)), some (.inl (c2_weldBit1_j8_0 f))]) (st' := [.inl (256 : Int32)]) (m' := (fl_row f 190 (upd (f 190) 6 (1 : Int32)), l)) rfl rfl (fl_bo rfl) rfl ?_
      have e0 : (c2_weldBit1_j23_0 f) = (256 : Int32) := by simp only [c2_weldBit1_j23_0, if_neg h2]
      rw [e0] at hJ
      exact hJ
  refine hj54 ?_
  show fl_Tq _ 97 33 [some (.inr (.inr (.inl (58, 190)))), some (.inl (1 : Int32)), some (.inl (c2_weldBit1_j8_0 f))] [.inl (c2_weldBit1_j23_0 f)] (fl_row f 190 (upd (f 190) 6 (1 : Int32)), l) _
  exact fl_Tq.ret rfl rfl rfl k
noncomputable def c2_silentBit_j11_0 (f : t2_F) (x : Int32) : Int32 := if x.toInt = 0 then (0 : Int32) else (if x.toInt < ((f 190 4) + (1 : Int32)).toInt then (512 : Int32) else (0 : Int32))
noncomputable def c2_silentBit_v (f : t2_F) (x : Int32) : Int32 := c2_silentBit_j11_0 f x
noncomputable def c2_silentBit_m (f : t2_F) (x : Int32) : t2_F := fl_row f 190 (upd (f 190) 4 ((f 190 4) + (1 : Int32)))
theorem c2_silentBit_fr {f : t2_F} {x : Int32} {p : Nat} (e0 : p ≠ 190) : c2_silentBit_m f x p = f p := by
  unfold c2_silentBit_m
  repeat' split
  all_goals first | rfl | simp only [fl_row_ne e0]
theorem c2_silentBit_q {L : Nat} {xs : Nat → Int32} {f : t2_F} {l : t2_L} {Q : Option fl_V → fl_M → Prop} {x : Int32}  (k : Q (some (.inl (c2_silentBit_v f x))) (c2_silentBit_m f x, l)) : fl_Tq (pw_P L xs) 98 0 (fl_args (am_mxl (pw_P L xs) 98) [.inr (.inr (.inl (58, 190))), .inl x]) [] (f, l) Q := by
  refine fl_Tq.stp (pc' := 1) (lv' := [some (.inr (.inr (.inl (58, 190)))), some (.inl x)]) (st' := [.inr (.inr (.inl (58, 190)))]) (m' := (f, l)) rfl rfl (fl_bo rfl) rfl ?_
  refine fl_Tq.stp (pc' := 2) (lv' := [some (.inr (.inr (.inl (58, 190)))), some (.inl x)]) (st' := [.inr (.inr (.inl (58, 190))), .inr (.inr (.inl (58, 190)))]) (m' := (f, l)) rfl rfl (fl_bo rfl) rfl ?_
  refine fl_Tq.gfV (k := 4) (v := f 190 4) rfl (fl_bo rfl) rfl rfl ?_
  refine fl_Tq.cI (c := (1 : Int32)) rfl (by decide +kernel) (fl_bo rfl) ?_
  refine fl_Tq.stp (pc' := 7) (lv' := [some (.inr (.inr (.inl (58, 190)))), some (.inl x)]) (st' := [.inl ((f 190 4) + (1 : Int32)), .inr (.inr (.inl (58, 190)))]) (m' := (f, l)) rfl rfl (fl_bo rfl) rfl ?_
  refine fl_Tq.pfV (k := 4) (m' := (fl_row f 190 (upd (f 190) 4 ((f 190 4) + (1 : Int32))), l)) rfl (fl_bo rfl) rfl (t2_upn rfl) ?_
  refine fl_Tq.stp (pc' := 11) (lv' := [some (.inr (.inr (.inl (58, 190)))), some (.inl x)]) (st' := [.inl x]) (m' := (fl_row f 190 (upd (f 190) 4 ((f 190 4) + (1 : Int32))), l)) rfl rfl (fl_bo rfl) rfl ?_
  have hj55 : fl_Tq (pw_P L xs) 98 29 [some (.inr (.inr (.inl (58, 190)))), some (.inl x)] [.inl (c2_silentBit_j11_0 f x)] (fl_row f 190 (upd (f 190) 4 ((f 190 4) + (1 : Int32))), l) Q → fl_Tq (pw_P L xs) 98 11 [some (.inr (.inr (.inl (58, 190)))), some (.inl x)] [.inl x] (fl_row f 190 (upd (f 190) 4 ((f 190 4) + (1 : Int32))), l) Q := by
    intro hJ
    by_cases h1 : x.toInt = 0
    · refine fl_Tq.zt rfl (fl_bo rfl) (c1_eq_t h1) rfl ?_
      refine fl_Tq.cI (c := (0 : Int32)) rfl (by decide +kernel) (fl_bo rfl) ?_
      have e0 : (c2_silentBit_j11_0 f x) = (0 : Int32) := by simp only [c2_silentBit_j11_0, if_pos h1]
      rw [e0] at hJ
      exact hJ
    · refine fl_Tq.zf rfl (fl_bo rfl) (c1_eq_f h1) rfl ?_
      refine fl_Tq.stp (pc' := 15) (lv' := [some (.inr (.inr (.inl (58, 190)))), some (.inl x)]) (st' := [.inr (.inr (.inl (58, 190)))]) (m' := (fl_row f 190 (upd (f 190) 4 ((f 190 4) + (1 : Int32))), l)) rfl rfl (fl_bo rfl) rfl ?_
      refine fl_Tq.gfV (k := 4) (v := (f 190 4) + (1 : Int32)) rfl (fl_bo rfl) rfl (by simp only [fl_row_self, upd_self]) ?_
      refine fl_Tq.stp (pc' := 19) (lv' := [some (.inr (.inr (.inl (58, 190)))), some (.inl x)]) (st' := [.inl x, .inl ((f 190 4) + (1 : Int32))]) (m' := (fl_row f 190 (upd (f 190) 4 ((f 190 4) + (1 : Int32))), l)) rfl rfl (fl_bo rfl) rfl ?_
      by_cases h2 : x.toInt < ((f 190 4) + (1 : Int32)).toInt
      · refine fl_Tq.jf rfl (fl_bo rfl) (c2_le_f h2) rfl ?_
        refine fl_Tq.cS (c := (512 : Int32)) rfl (by decide +kernel) (fl_bo rfl) ?_
        refine fl_Tq.stp (pc' := 29) (lv' := [some (.inr (.inr (.inl (58, 190)))), some (.inl x)]) (st' := [.inl (512 : Int32)]) (m' := (fl_row f 190 (upd (f 190) 4 ((f 190 4) + (1 : Int32))), l)) rfl rfl (fl_bo rfl) rfl ?_
        have e0 : (c2_silentBit_j11_0 f x) = (512 : Int32) := by simp only [c2_silentBit_j11_0, if_neg h1, if_pos h2]
        rw [e0] at hJ
        exact hJ
      · refine fl_Tq.jt rfl (fl_bo rfl) (c2_le_t h2) rfl ?_
        refine fl_Tq.cI (c := (0 : Int32)) rfl (by decide +kernel) (fl_bo rfl) ?_
        have e0 : (c2_silentBit_j11_0 f x) = (0 : Int32) := by simp only [c2_silentBit_j11_0, if_neg h1, if_neg h2]
        rw [e0] at hJ
        exact hJ
  refine hj55 ?_
  show fl_Tq _ 98 29 [some (.inr (.inr (.inl (58, 190)))), some (.inl x)] [.inl (c2_silentBit_j11_0 f x)] (fl_row f 190 (upd (f 190) 4 ((f 190 4) + (1 : Int32))), l) _
  exact fl_Tq.ret rfl rfl rfl k
noncomputable def c2_bearsZone_v (f : t2_F) (x : Int32) : Int32 := if (f 183 6).toInt < (6 : Int32).toInt then (if (f 183 6).toInt = 0 then (1 : Int32) else (if (f 187 (2 * (f 183 6).toInt.toNat - 2)).toInt < x.toInt then (1 : Int32) else (0 : Int32))) else (0 : Int32)
theorem c2_bearsZone_q {L : Nat} {xs : Nat → Int32} {f : t2_F} {l : t2_L} {Q : Option fl_V → fl_M → Prop} {x : Int32} (hz : 0 ≤ (f 183 6).toInt ∧ (f 183 6).toInt ≤ 6) (k : Q (some (.inl (c2_bearsZone_v f x))) (f, l)) : fl_Tq (pw_P L xs) 77 0 (fl_args (am_mxl (pw_P L xs) 77) [.inr (.inr (.inl (51, 183))), .inl x]) [] (f, l) Q := by
  refine fl_Tq.stp (pc' := 1) (lv' := [some (.inr (.inr (.inl (51, 183)))), some (.inl x)]) (st' := [.inr (.inr (.inl (51, 183)))]) (m' := (f, l)) rfl rfl (fl_bo rfl) rfl ?_
  refine fl_Tq.gfV (k := 6) (v := f 183 6) rfl (fl_bo rfl) rfl rfl ?_
  refine fl_Tq.cB (c := (6 : Int32)) rfl (by decide +kernel) (fl_bo rfl) ?_
  by_cases h1 : (f 183 6).toInt < (6 : Int32).toInt
  · refine fl_Tq.jt rfl (fl_bo rfl) (c2_lt_t h1) rfl ?_
    refine fl_Tq.stp (pc' := 12) (lv' := [some (.inr (.inr (.inl (51, 183)))), some (.inl x)]) (st' := [.inr (.inr (.inl (51, 183)))]) (m' := (f, l)) rfl rfl (fl_bo rfl) rfl ?_
    refine fl_Tq.gfV (k := 6) (v := f 183 6) rfl (fl_bo rfl) rfl rfl ?_
    by_cases h2 : (f 183 6).toInt = 0
    · refine fl_Tq.zt rfl (fl_bo rfl) (c1_eq_t h2) rfl ?_
      refine fl_Tq.cI (c := (1 : Int32)) rfl (by decide +kernel) (fl_bo rfl) ?_
      refine fl_Tq.stp (pc' := 40) (lv' := [some (.inr (.inr (.inl (51, 183)))), some (.inl x)]) (st' := [.inl (1 : Int32)]) (m' := (f, l)) rfl rfl (fl_bo rfl) rfl ?_
      refine fl_Tq.ret rfl rfl rfl ?_
      unfold c2_bearsZone_v at k
      simp only [if_pos h1, if_pos h2] at k
      exact k
    · refine fl_Tq.zf rfl (fl_bo rfl) (c1_eq_f h2) rfl ?_
      refine fl_Tq.stp (pc' := 19) (lv' := [some (.inr (.inr (.inl (51, 183)))), some (.inl x)]) (st' := [.inl x]) (m' := (f, l)) rfl rfl (fl_bo rfl) rfl ?_
      refine fl_Tq.stp (pc' := 20) (lv' := [some (.inr (.inr (.inl (51, 183)))), some (.inl x)]) (st' := [.inr (.inr (.inl (51, 183))), .inl x]) (m' := (f, l)) rfl rfl (fl_bo rfl) rfl ?_
      refine fl_Tq.stp (pc' := 23) (lv' := [some (.inr (.inr (.inl (51, 183)))), some (.inl x)]) (st' := [.inr (.inr (.inl (55, 187))), .inl x]) (m' := (f, l)) rfl rfl (fl_bo rfl) rfl ?_
      refine fl_Tq.stp (pc' := 24) (lv' := [some (.inr (.inr (.inl (51, 183)))), some (.inl x)]) (st' := [.inr (.inr (.inl (51, 183))), .inr (.inr (.inl (55, 187))), .inl x]) (m' := (f, l)) rfl rfl (fl_bo rfl) rfl ?_
      refine fl_Tq.gfV (k := 6) (v := f 183 6) rfl (fl_bo rfl) rfl rfl ?_
      refine fl_Tq.cI (c := (2 : Int32)) rfl (by decide +kernel) (fl_bo rfl) ?_
      refine fl_Tq.stp (pc' := 29) (lv' := [some (.inr (.inr (.inl (51, 183)))), some (.inl x)]) (st' := [.inl ((f 183 6) * (2 : Int32)), .inr (.inr (.inl (55, 187))), .inl x]) (m' := (f, l)) rfl rfl (fl_bo rfl) rfl ?_
      refine fl_Tq.cI (c := (2 : Int32)) rfl (by decide +kernel) (fl_bo rfl) ?_
      refine fl_Tq.stp (pc' := 31) (lv' := [some (.inr (.inr (.inl (51, 183)))), some (.inl x)]) (st' := [.inl (((f 183 6) * (2 : Int32)) - (2 : Int32)), .inr (.inr (.inl (55, 187))), .inl x]) (m' := (f, l)) rfl rfl (fl_bo rfl) rfl ?_
      refine fl_Tq.ldV (p := 187) (τ := 55) (n := 12) (z := (0, 0, 0)) (k := 2 * (f 183 6).toInt.toNat - 2) (v := f 187 (2 * (f 183 6).toInt.toNat - 2)) rfl (fl_bo rfl) rfl (t2_zl hz h2) (by omega) rfl ?_
      by_cases h3 : (f 187 (2 * (f 183 6).toInt.toNat - 2)).toInt < x.toInt
      · refine fl_Tq.jf rfl (fl_bo rfl) (c2_le_f h3) rfl ?_
        refine fl_Tq.cI (c := (1 : Int32)) rfl (by decide +kernel) (fl_bo rfl) ?_
        refine fl_Tq.stp (pc' := 40) (lv' := [some (.inr (.inr (.inl (51, 183)))), some (.inl x)]) (st' := [.inl (1 : Int32)]) (m' := (f, l)) rfl rfl (fl_bo rfl) rfl ?_
        refine fl_Tq.ret rfl rfl rfl ?_
        unfold c2_bearsZone_v at k
        simp only [if_pos h1, if_neg h2, if_pos h3] at k
        exact k
      · refine fl_Tq.jt rfl (fl_bo rfl) (c2_le_t h3) rfl ?_
        refine fl_Tq.cI (c := (0 : Int32)) rfl (by decide +kernel) (fl_bo rfl) ?_
        refine fl_Tq.ret rfl rfl rfl ?_
        unfold c2_bearsZone_v at k
        simp only [if_pos h1, if_neg h2, if_neg h3] at k
        exact k
  · refine fl_Tq.jf rfl (fl_bo rfl) (c2_lt_f h1) rfl ?_
    refine fl_Tq.cI (c := (0 : Int32)) rfl (by decide +kernel) (fl_bo rfl) ?_
    refine fl_Tq.ret rfl rfl rfl ?_
    unfold c2_bearsZone_v at k
    simp only [if_neg h1] at k
    exact k
noncomputable def c2_bearsPiece_v (f : t2_F) : Int32 := if (f 183 7).toInt < (24 : Int32).toInt then (1 : Int32) else (0 : Int32)
theorem c2_bearsPiece_q {L : Nat} {xs : Nat → Int32} {f : t2_F} {l : t2_L} {Q : Option fl_V → fl_M → Prop}   (k : Q (some (.inl (c2_bearsPiece_v f))) (f, l)) : fl_Tq (pw_P L xs) 80 0 (fl_args (am_mxl (pw_P L xs) 80) [.inr (.inr (.inl (51, 183)))]) [] (f, l) Q := by
  refine fl_Tq.stp (pc' := 1) (lv' := [some (.inr (.inr (.inl (51, 183))))]) (st' := [.inr (.inr (.inl (51, 183)))]) (m' := (f, l)) rfl rfl (fl_bo rfl) rfl ?_
  refine fl_Tq.gfV (k := 7) (v := f 183 7) rfl (fl_bo rfl) rfl rfl ?_
  refine fl_Tq.cB (c := (24 : Int32)) rfl (by decide +kernel) (fl_bo rfl) ?_
  by_cases h1 : (f 183 7).toInt < (24 : Int32).toInt
  · refine fl_Tq.jf rfl (fl_bo rfl) (c2_ge_f h1) rfl ?_
    refine fl_Tq.cI (c := (1 : Int32)) rfl (by decide +kernel) (fl_bo rfl) ?_
    refine fl_Tq.stp (pc' := 14) (lv' := [some (.inr (.inr (.inl (51, 183))))]) (st' := [.inl (1 : Int32)]) (m' := (f, l)) rfl rfl (fl_bo rfl) rfl ?_
    refine fl_Tq.ret rfl rfl rfl ?_
    unfold c2_bearsPiece_v at k
    simp only [if_pos h1] at k
    exact k
  · refine fl_Tq.jt rfl (fl_bo rfl) (c2_ge_t h1) rfl ?_
    refine fl_Tq.cI (c := (0 : Int32)) rfl (by decide +kernel) (fl_bo rfl) ?_
    refine fl_Tq.ret rfl rfl rfl ?_
    unfold c2_bearsPiece_v at k
    simp only [if_neg h1] at k
    exact k
noncomputable def c2_bearsRule_v (f : t2_F) : Int32 := if (f 183 8).toInt < (8 : Int32).toInt then (1 : Int32) else (0 : Int32)
theorem c2_bearsRule_q {L : Nat} {xs : Nat → Int32} {f : t2_F} {l : t2_L} {Q : Option fl_V → fl_M → Prop}   (k : Q (some (.inl (c2_bearsRule_v f))) (f, l)) : fl_Tq (pw_P L xs) 83 0 (fl_args (am_mxl (pw_P L xs) 83) [.inr (.inr (.inl (51, 183)))]) [] (f, l) Q := by
  refine fl_Tq.stp (pc' := 1) (lv' := [some (.inr (.inr (.inl (51, 183))))]) (st' := [.inr (.inr (.inl (51, 183)))]) (m' := (f, l)) rfl rfl (fl_bo rfl) rfl ?_
  refine fl_Tq.gfV (k := 8) (v := f 183 8) rfl (fl_bo rfl) rfl rfl ?_
  refine fl_Tq.cB (c := (8 : Int32)) rfl (by decide +kernel) (fl_bo rfl) ?_
  by_cases h1 : (f 183 8).toInt < (8 : Int32).toInt
  · refine fl_Tq.jf rfl (fl_bo rfl) (c2_ge_f h1) rfl ?_
    refine fl_Tq.cI (c := (1 : Int32)) rfl (by decide +kernel) (fl_bo rfl) ?_
    refine fl_Tq.stp (pc' := 14) (lv' := [some (.inr (.inr (.inl (51, 183))))]) (st' := [.inl (1 : Int32)]) (m' := (f, l)) rfl rfl (fl_bo rfl) rfl ?_
    refine fl_Tq.ret rfl rfl rfl ?_
    unfold c2_bearsRule_v at k
    simp only [if_pos h1] at k
    exact k
  · refine fl_Tq.jt rfl (fl_bo rfl) (c2_ge_t h1) rfl ?_
    refine fl_Tq.cI (c := (0 : Int32)) rfl (by decide +kernel) (fl_bo rfl) ?_
    refine fl_Tq.ret rfl rfl rfl ?_
    unfold c2_bearsRule_v at k
    simp only [if_neg h1] at k
    exact k
noncomputable def c2_addZone_v (f : t2_F) (x y : Int32) : Int32 := (f 183 6) + (1 : Int32)
noncomputable def c2_addZone_m (f : t2_F) (x y : Int32) : t2_F := fl_row (fl_row f 187 (upd (upd (f 187) (((f 183 6).toInt.toNat) * 2) x) ((((f 183 6).toInt.toNat) * 2) + 1) y)) 183 (upd (f 183) 6 ((f 183 6) + (1 : Int32)))
theorem c2_addZone_fr {f : t2_F} {x y : Int32} {p : Nat} (e0 : p ≠ 187) (e1 : p ≠ 183) : c2_addZone_m f x y p = f p := by
  unfold c2_addZone_m
  repeat' split
  all_goals first | rfl | simp only [fl_row_ne e0, fl_row_ne e1]
theorem c2_addZone_q {L : Nat} {xs : Nat → Int32} {f : t2_F} {l : t2_L} {Q : Option fl_V → fl_M → Prop} {x y : Int32} (hz : 0 ≤ (f 183 6).toInt ∧ (f 183 6).toInt ≤ 5) (k : Q (some (.inl (c2_addZone_v f x y))) (c2_addZone_m f x y, l)) : fl_Tq (pw_P L xs) 78 0 (fl_args (am_mxl (pw_P L xs) 78) [.inr (.inr (.inl (51, 183))), .inl x, .inl y]) [] (f, l) Q := by
  refine fl_Tq.stp (pc' := 1) (lv' := [some (.inr (.inr (.inl (51, 183)))), some (.inl x), some (.inl y)]) (st' := [.inr (.inr (.inl (51, 183)))]) (m' := (f, l)) rfl rfl (fl_bo rfl) rfl ?_
  refine fl_Tq.stp (pc' := 4) (lv' := [some (.inr (.inr (.inl (51, 183)))), some (.inl x), some (.inl y)]) (st' := [.inr (.inr (.inl (55, 187)))]) (m' := (f, l)) rfl rfl (fl_bo rfl) rfl ?_
  refine fl_Tq.stp (pc' := 5) (lv' := [some (.inr (.inr (.inl (51, 183)))), some (.inl x), some (.inl y)]) (st' := [.inr (.inr (.inl (51, 183))), .inr (.inr (.inl (55, 187)))]) (m' := (f, l)) rfl rfl (fl_bo rfl) rfl ?_
  refine fl_Tq.gfV (k := 6) (v := f 183 6) rfl (fl_bo rfl) rfl rfl ?_
  refine fl_Tq.cI (c := (2 : Int32)) rfl (by decide +kernel) (fl_bo rfl) ?_
  refine fl_Tq.stp (pc' := 10) (lv' := [some (.inr (.inr (.inl (51, 183)))), some (.inl x), some (.inl y)]) (st' := [.inl ((f 183 6) * (2 : Int32)), .inr (.inr (.inl (55, 187)))]) (m' := (f, l)) rfl rfl (fl_bo rfl) rfl ?_
  refine fl_Tq.stp (pc' := 11) (lv' := [some (.inr (.inr (.inl (51, 183)))), some (.inl x), some (.inl y)]) (st' := [.inl x, .inl ((f 183 6) * (2 : Int32)), .inr (.inr (.inl (55, 187)))]) (m' := (f, l)) rfl rfl (fl_bo rfl) rfl ?_
  refine fl_Tq.svV (p := 187) (τ := 55) (n := 12) (z := (0, 0, 0)) (k := ((f 183 6).toInt.toNat) * 2) (m' := (fl_row f 187 (upd (f 187) (((f 183 6).toInt.toNat) * 2) x), l)) rfl (fl_bo rfl) rfl (t2_im (t2_nn hz.1) (by decide +kernel) (by omega)) (by omega) (t2_upn rfl) ?_
  refine fl_Tq.stp (pc' := 13) (lv' := [some (.inr (.inr (.inl (51, 183)))), some (.inl x), some (.inl y)]) (st' := [.inr (.inr (.inl (51, 183)))]) (m' := (fl_row f 187 (upd (f 187) (((f 183 6).toInt.toNat) * 2) x), l)) rfl rfl (fl_bo rfl) rfl ?_
  refine fl_Tq.stp (pc' := 16) (lv' := [some (.inr (.inr (.inl (51, 183)))), some (.inl x), some (.inl y)]) (st' := [.inr (.inr (.inl (55, 187)))]) (m' := (fl_row f 187 (upd (f 187) (((f 183 6).toInt.toNat) * 2) x), l)) rfl rfl (fl_bo rfl) rfl ?_
  refine fl_Tq.stp (pc' := 17) (lv' := [some (.inr (.inr (.inl (51, 183)))), some (.inl x), some (.inl y)]) (st' := [.inr (.inr (.inl (51, 183))), .inr (.inr (.inl (55, 187)))]) (m' := (fl_row f 187 (upd (f 187) (((f 183 6).toInt.toNat) * 2) x), l)) rfl rfl (fl_bo rfl) rfl ?_
  refine fl_Tq.gfV (k := 6) (v := f 183 6) rfl (fl_bo rfl) rfl (by simp only [fl_row_ne (by decide : 183 ≠ 187)]) ?_
  refine fl_Tq.cI (c := (2 : Int32)) rfl (by decide +kernel) (fl_bo rfl) ?_
  refine fl_Tq.stp (pc' := 22) (lv' := [some (.inr (.inr (.inl (51, 183)))), some (.inl x), some (.inl y)]) (st' := [.inl ((f 183 6) * (2 : Int32)), .inr (.inr (.inl (55, 187)))]) (m' := (fl_row f 187 (upd (f 187) (((f 183 6).toInt.toNat) * 2) x), l)) rfl rfl (fl_bo rfl) rfl ?_
  refine fl_Tq.cI (c := (1 : Int32)) rfl (by decide +kernel) (fl_bo rfl) ?_
  refine fl_Tq.stp (pc' := 24) (lv' := [some (.inr (.inr (.inl (51, 183)))), some (.inl x), some (.inl y)]) (st' := [.inl (((f 183 6) * (2 : Int32)) + (1 : Int32)), .inr (.inr (.inl (55, 187)))]) (m' := (fl_row f 187 (upd (f 187) (((f 183 6).toInt.toNat) * 2) x), l)) rfl rfl (fl_bo rfl) rfl ?_
  refine fl_Tq.stp (pc' := 25) (lv' := [some (.inr (.inr (.inl (51, 183)))), some (.inl x), some (.inl y)]) (st' := [.inl y, .inl (((f 183 6) * (2 : Int32)) + (1 : Int32)), .inr (.inr (.inl (55, 187)))]) (m' := (fl_row f 187 (upd (f 187) (((f 183 6).toInt.toNat) * 2) x), l)) rfl rfl (fl_bo rfl) rfl ?_
  refine fl_Tq.svV (p := 187) (τ := 55) (n := 12) (z := (0, 0, 0)) (k := (((f 183 6).toInt.toNat) * 2) + 1) (m' := (fl_row f 187 (upd (upd (f 187) (((f 183 6).toInt.toNat) * 2) x) ((((f 183 6).toInt.toNat) * 2) + 1) y), l)) rfl (fl_bo rfl) rfl (t2_ia (t2_im (t2_nn hz.1) (by decide +kernel) (by omega)) (by decide +kernel) (by omega)) (by omega) (t2_upr) ?_
  refine fl_Tq.stp (pc' := 27) (lv' := [some (.inr (.inr (.inl (51, 183)))), some (.inl x), some (.inl y)]) (st' := [.inr (.inr (.inl (51, 183)))]) (m' := (fl_row f 187 (upd (upd (f 187) (((f 183 6).toInt.toNat) * 2) x) ((((f 183 6).toInt.toNat) * 2) + 1) y), l)) rfl rfl (fl_bo rfl) rfl ?_
  refine fl_Tq.stp (pc' := 28) (lv' := [some (.inr (.inr (.inl (51, 183)))), some (.inl x), some (.inl y)]) (st' := [.inr (.inr (.inl (51, 183))), .inr (.inr (.inl (51, 183)))]) (m' := (fl_row f 187 (upd (upd (f 187) (((f 183 6).toInt.toNat) * 2) x) ((((f 183 6).toInt.toNat) * 2) + 1) y), l)) rfl rfl (fl_bo rfl) rfl ?_
  refine fl_Tq.gfV (k := 6) (v := f 183 6) rfl (fl_bo rfl) rfl (by simp only [fl_row_ne (by decide : 183 ≠ 187)]) ?_
  refine fl_Tq.cI (c := (1 : Int32)) rfl (by decide +kernel) (fl_bo rfl) ?_
  refine fl_Tq.stp (pc' := 33) (lv' := [some (.inr (.inr (.inl (51, 183)))), some (.inl x), some (.inl y)]) (st' := [.inl ((f 183 6) + (1 : Int32)), .inr (.inr (.inl (51, 183)))]) (m' := (fl_row f 187 (upd (upd (f 187) (((f 183 6).toInt.toNat) * 2) x) ((((f 183 6).toInt.toNat) * 2) + 1) y), l)) rfl rfl (fl_bo rfl) rfl ?_
  refine fl_Tq.pfV (k := 6) (m' := (fl_row (fl_row f 187 (upd (upd (f 187) (((f 183 6).toInt.toNat) * 2) x) ((((f 183 6).toInt.toNat) * 2) + 1) y)) 183 (upd (f 183) 6 ((f 183 6) + (1 : Int32))), l)) rfl (fl_bo rfl) rfl (t2_upn (by rw [fl_row_ne (by decide : 183 ≠ 187)])) ?_
  refine fl_Tq.stp (pc' := 37) (lv' := [some (.inr (.inr (.inl (51, 183)))), some (.inl x), some (.inl y)]) (st' := [.inr (.inr (.inl (51, 183)))]) (m' := (fl_row (fl_row f 187 (upd (upd (f 187) (((f 183 6).toInt.toNat) * 2) x) ((((f 183 6).toInt.toNat) * 2) + 1) y)) 183 (upd (f 183) 6 ((f 183 6) + (1 : Int32))), l)) rfl rfl (fl_bo rfl) rfl ?_
  refine fl_Tq.gfV (k := 6) (v := (f 183 6) + (1 : Int32)) rfl (fl_bo rfl) rfl (by simp only [fl_row_self, upd_self]) ?_
  exact fl_Tq.ret rfl rfl rfl k
noncomputable def c2_addPiece_v (f : t2_F) (x y : Int32) : Int32 := (f 183 7) + (1 : Int32)
noncomputable def c2_addPiece_m (f : t2_F) (x y : Int32) : t2_F := fl_row (fl_row f 188 (upd (upd (f 188) (((f 183 7).toInt.toNat) * 2) x) ((((f 183 7).toInt.toNat) * 2) + 1) y)) 183 (upd (f 183) 7 ((f 183 7) + (1 : Int32)))
theorem c2_addPiece_fr {f : t2_F} {x y : Int32} {p : Nat} (e0 : p ≠ 188) (e1 : p ≠ 183) : c2_addPiece_m f x y p = f p := by
  unfold c2_addPiece_m
  repeat' split
  all_goals first | rfl | simp only [fl_row_ne e0, fl_row_ne e1]
theorem c2_addPiece_q {L : Nat} {xs : Nat → Int32} {f : t2_F} {l : t2_L} {Q : Option fl_V → fl_M → Prop} {x y : Int32} (hz : 0 ≤ (f 183 7).toInt ∧ (f 183 7).toInt ≤ 23) (k : Q (some (.inl (c2_addPiece_v f x y))) (c2_addPiece_m f x y, l)) : fl_Tq (pw_P L xs) 81 0 (fl_args (am_mxl (pw_P L xs) 81) [.inr (.inr (.inl (51, 183))), .inl x, .inl y]) [] (f, l) Q := by
  refine fl_Tq.stp (pc' := 1) (lv' := [some (.inr (.inr (.inl (51, 183)))), some (.inl x), some (.inl y)]) (st' := [.inr (.inr (.inl (51, 183)))]) (m' := (f, l)) rfl rfl (fl_bo rfl) rfl ?_
  refine fl_Tq.stp (pc' := 4) (lv' := [some (.inr (.inr (.inl (51, 183)))), some (.inl x), some (.inl y)]) (st' := [.inr (.inr (.inl (56, 188)))]) (m' := (f, l)) rfl rfl (fl_bo rfl) rfl ?_
  refine fl_Tq.stp (pc' := 5) (lv' := [some (.inr (.inr (.inl (51, 183)))), some (.inl x), some (.inl y)]) (st' := [.inr (.inr (.inl (51, 183))), .inr (.inr (.inl (56, 188)))]) (m' := (f, l)) rfl rfl (fl_bo rfl) rfl ?_
  refine fl_Tq.gfV (k := 7) (v := f 183 7) rfl (fl_bo rfl) rfl rfl ?_
  refine fl_Tq.cI (c := (2 : Int32)) rfl (by decide +kernel) (fl_bo rfl) ?_
  refine fl_Tq.stp (pc' := 10) (lv' := [some (.inr (.inr (.inl (51, 183)))), some (.inl x), some (.inl y)]) (st' := [.inl ((f 183 7) * (2 : Int32)), .inr (.inr (.inl (56, 188)))]) (m' := (f, l)) rfl rfl (fl_bo rfl) rfl ?_
  refine fl_Tq.stp (pc' := 11) (lv' := [some (.inr (.inr (.inl (51, 183)))), some (.inl x), some (.inl y)]) (st' := [.inl x, .inl ((f 183 7) * (2 : Int32)), .inr (.inr (.inl (56, 188)))]) (m' := (f, l)) rfl rfl (fl_bo rfl) rfl ?_
  refine fl_Tq.svV (p := 188) (τ := 56) (n := 48) (z := (0, 0, 0)) (k := ((f 183 7).toInt.toNat) * 2) (m' := (fl_row f 188 (upd (f 188) (((f 183 7).toInt.toNat) * 2) x), l)) rfl (fl_bo rfl) rfl (t2_im (t2_nn hz.1) (by decide +kernel) (by omega)) (by omega) (t2_upn rfl) ?_
  refine fl_Tq.stp (pc' := 13) (lv' := [some (.inr (.inr (.inl (51, 183)))), some (.inl x), some (.inl y)]) (st' := [.inr (.inr (.inl (51, 183)))]) (m' := (fl_row f 188 (upd (f 188) (((f 183 7).toInt.toNat) * 2) x), l)) rfl rfl (fl_bo rfl) rfl ?_
  refine fl_Tq.stp (pc' := 16) (lv' := [some (.inr (.inr (.inl (51, 183)))), some (.inl x), some (.inl y)]) (st' := [.inr (.inr (.inl (56, 188)))]) (m' := (fl_row f 188 (upd (f 188) (((f 183 7).toInt.toNat) * 2) x), l)) rfl rfl (fl_bo rfl) rfl ?_
  refine fl_Tq.stp (pc' := 17) (lv' := [some (.inr (.inr (.inl (51, 183)))), some (.inl x), some (.inl y)]) (st' := [.inr (.inr (.inl (51, 183))), .inr (.inr (.inl (56, 188)))]) (m' := (fl_row f 188 (upd (f 188) (((f 183 7).toInt.toNat) * 2) x), l)) rfl rfl (fl_bo rfl) rfl ?_
  refine fl_Tq.gfV (k := 7) (v := f 183 7) rfl (fl_bo rfl) rfl (by simp only [fl_row_ne (by decide : 183 ≠ 188)]) ?_
  refine fl_Tq.cI (c := (2 : Int32)) rfl (by decide +kernel) (fl_bo rfl) ?_
  refine fl_Tq.stp (pc' := 22) (lv' := [some (.inr (.inr (.inl (51, 183)))), some (.inl x), some (.inl y)]) (st' := [.inl ((f 183 7) * (2 : Int32)), .inr (.inr (.inl (56, 188)))]) (m' := (fl_row f 188 (upd (f 188) (((f 183 7).toInt.toNat) * 2) x), l)) rfl rfl (fl_bo rfl) rfl ?_
  refine fl_Tq.cI (c := (1 : Int32)) rfl (by decide +kernel) (fl_bo rfl) ?_
  refine fl_Tq.stp (pc' := 24) (lv' := [some (.inr (.inr (.inl (51, 183)))), some (.inl x), some (.inl y)]) (st' := [.inl (((f 183 7) * (2 : Int32)) + (1 : Int32)), .inr (.inr (.inl (56, 188)))]) (m' := (fl_row f 188 (upd (f 188) (((f 183 7).toInt.toNat) * 2) x), l)) rfl rfl (fl_bo rfl) rfl ?_
  refine fl_Tq.stp (pc' := 25) (lv' := [some (.inr (.inr (.inl (51, 183)))), some (.inl x), some (.inl y)]) (st' := [.inl y, .inl (((f 183 7) * (2 : Int32)) + (1 : Int32)), .inr (.inr (.inl (56, 188)))]) (m' := (fl_row f 188 (upd (f 188) (((f 183 7).toInt.toNat) * 2) x), l)) rfl rfl (fl_bo rfl) rfl ?_
  refine fl_Tq.svV (p := 188) (τ := 56) (n := 48) (z := (0, 0, 0)) (k := (((f 183 7).toInt.toNat) * 2) + 1) (m' := (fl_row f 188 (upd (upd (f 188) (((f 183 7).toInt.toNat) * 2) x) ((((f 183 7).toInt.toNat) * 2) + 1) y), l)) rfl (fl_bo rfl) rfl (t2_ia (t2_im (t2_nn hz.1) (by decide +kernel) (by omega)) (by decide +kernel) (by omega)) (by omega) (t2_upr) ?_
  refine fl_Tq.stp (pc' := 27) (lv' := [some (.inr (.inr (.inl (51, 183)))), some (.inl x), some (.inl y)]) (st' := [.inr (.inr (.inl (51, 183)))]) (m' := (fl_row f 188 (upd (upd (f 188) (((f 183 7).toInt.toNat) * 2) x) ((((f 183 7).toInt.toNat) * 2) + 1) y), l)) rfl rfl (fl_bo rfl) rfl ?_
  refine fl_Tq.stp (pc' := 28) (lv' := [some (.inr (.inr (.inl (51, 183)))), some (.inl x), some (.inl y)]) (st' := [.inr (.inr (.inl (51, 183))), .inr (.inr (.inl (51, 183)))]) (m' := (fl_row f 188 (upd (upd (f 188) (((f 183 7).toInt.toNat) * 2) x) ((((f 183 7).toInt.toNat) * 2) + 1) y), l)) rfl rfl (fl_bo rfl) rfl ?_
  refine fl_Tq.gfV (k := 7) (v := f 183 7) rfl (fl_bo rfl) rfl (by simp only [fl_row_ne (by decide : 183 ≠ 188)]) ?_
  refine fl_Tq.cI (c := (1 : Int32)) rfl (by decide +kernel) (fl_bo rfl) ?_
  refine fl_Tq.stp (pc' := 33) (lv' := [some (.inr (.inr (.inl (51, 183)))), some (.inl x), some (.inl y)]) (st' := [.inl ((f 183 7) + (1 : Int32)), .inr (.inr (.inl (51, 183)))]) (m' := (fl_row f 188 (upd (upd (f 188) (((f 183 7).toInt.toNat) * 2) x) ((((f 183 7).toInt.toNat) * 2) + 1) y), l)) rfl rfl (fl_bo rfl) rfl ?_
  refine fl_Tq.pfV (k := 7) (m' := (fl_row (fl_row f 188 (upd (upd (f 188) (((f 183 7).toInt.toNat) * 2) x) ((((f 183 7).toInt.toNat) * 2) + 1) y)) 183 (upd (f 183) 7 ((f 183 7) + (1 : Int32))), l)) rfl (fl_bo rfl) rfl (t2_upn (by rw [fl_row_ne (by decide : 183 ≠ 188)])) ?_
  refine fl_Tq.stp (pc' := 37) (lv' := [some (.inr (.inr (.inl (51, 183)))), some (.inl x), some (.inl y)]) (st' := [.inr (.inr (.inl (51, 183)))]) (m' := (fl_row (fl_row f 188 (upd (upd (f 188) (((f 183 7).toInt.toNat) * 2) x) ((((f 183 7).toInt.toNat) * 2) + 1) y)) 183 (upd (f 183) 7 ((f 183 7) + (1 : Int32))), l)) rfl rfl (fl_bo rfl) rfl ?_
  refine fl_Tq.gfV (k := 7) (v := (f 183 7) + (1 : Int32)) rfl (fl_bo rfl) rfl (by simp only [fl_row_self, upd_self]) ?_
  exact fl_Tq.ret rfl rfl rfl k
noncomputable def c2_addRule_v (f : t2_F) (x y z u v : Int32) : Int32 := (f 183 8) + (1 : Int32)
noncomputable def c2_addRule_m (f : t2_F) (x y z u v : Int32) : t2_F := fl_row (fl_row f 189 (upd (upd (upd (upd (upd (f 189) (((f 183 8).toInt.toNat) * 5) x) ((((f 183 8).toInt.toNat) * 5) + 1) y) ((((f 183 8).toInt.toNat) * 5) + 2) z) ((((f 183 8).toInt.toNat) * 5) + 3) u) ((((f 183 8).toInt.toNat) * 5) + 4) v)) 183 (upd (f 183) 8 ((f 183 8) + (1 : Int32)))
theorem c2_addRule_fr {f : t2_F} {x y z u v : Int32} {p : Nat} (e0 : p ≠ 189) (e1 : p ≠ 183) : c2_addRule_m f x y z u v p = f p := by
  unfold c2_addRule_m
  repeat' split
  all_goals first | rfl | simp only [fl_row_ne e0, fl_row_ne e1]
theorem c2_addRule_q {L : Nat} {xs : Nat → Int32} {f : t2_F} {l : t2_L} {Q : Option fl_V → fl_M → Prop} {x y z u v : Int32} (hz : 0 ≤ (f 183 8).toInt ∧ (f 183 8).toInt ≤ 7) (k : Q (some (.inl (c2_addRule_v f x y z u v))) (c2_addRule_m f x y z u v, l)) : fl_Tq (pw_P L xs) 84 0 (fl_args (am_mxl (pw_P L xs) 84) [.inr (.inr (.inl (51, 183))), .inl x, .inl y, .inl z, .inl u, .inl v]) [] (f, l) Q := by
  refine fl_Tq.stp (pc' := 1) (lv' := [some (.inr (.inr (.inl (51, 183)))), some (.inl x), some (.inl y), some (.inl z), some (.inl u), some (.inl v), none]) (st' := [.inr (.inr (.inl (51, 183)))]) (m' := (f, l)) rfl rfl (fl_bo rfl) rfl ?_
  refine fl_Tq.gfV (k := 8) (v := f 183 8) rfl (fl_bo rfl) rfl rfl ?_
  refine fl_Tq.cI (c := (5 : Int32)) rfl (by decide +kernel) (fl_bo rfl) ?_
  refine fl_Tq.stp (pc' := 6) (lv' := [some (.inr (.inr (.inl (51, 183)))), some (.inl x), some (.inl y), some (.inl z), some (.inl u), some (.inl v), none]) (st' := [.inl ((f 183 8) * (5 : Int32))]) (m' := (f, l)) rfl rfl (fl_bo rfl) rfl ?_
  refine fl_Tq.stp (pc' := 8) (lv' := [some (.inr (.inr (.inl (51, 183)))), some (.inl x), some (.inl y), some (.inl z), some (.inl u), some (.inl v), some (.inl ((f 183 8) * (5 : Int32)))]) (st' := []) (m' := (f, l)) rfl rfl (fl_bo rfl) rfl ?_
  refine fl_Tq.stp (pc' := 9) (lv' := [some (.inr (.inr (.inl (51, 183)))), some (.inl x), some (.inl y), some (.inl z), some (.inl u), some (.inl v), some (.inl ((f 183 8) * (5 : Int32)))]) (st' := [.inr (.inr (.inl (51, 183)))]) (m' := (f, l)) rfl rfl (fl_bo rfl) rfl ?_
  refine fl_Tq.stp (pc' := 12) (lv' := [some (.inr (.inr (.inl (51, 183)))), some (.inl x), some (.inl y), some (.inl z), some (.inl u), some (.inl v), some (.inl ((f 183 8) * (5 : Int32)))]) (st' := [.inr (.inr (.inl (57, 189)))]) (m' := (f, l)) rfl rfl (fl_bo rfl) rfl ?_
  refine fl_Tq.stp (pc' := 14) (lv' := [some (.inr (.inr (.inl (51, 183)))), some (.inl x), some (.inl y), some (.inl z), some (.inl u), some (.inl v), some (.inl ((f 183 8) * (5 : Int32)))]) (st' := [.inl ((f 183 8) * (5 : Int32)), .inr (.inr (.inl (57, 189)))]) (m' := (f, l)) rfl rfl (fl_bo rfl) rfl ?_
  refine fl_Tq.stp (pc' := 15) (lv' := [some (.inr (.inr (.inl (51, 183)))), some (.inl x), some (.inl y), some (.inl z), some (.inl u), some (.inl v), some (.inl ((f 183 8) * (5 : Int32)))]) (st' := [.inl x, .inl ((f 183 8) * (5 : Int32)), .inr (.inr (.inl (57, 189)))]) (m' := (f, l)) rfl rfl (fl_bo rfl) rfl ?_
  refine fl_Tq.svV (p := 189) (τ := 57) (n := 40) (z := (0, 0, 0)) (k := ((f 183 8).toInt.toNat) * 5) (m' := (fl_row f 189 (upd (f 189) (((f 183 8).toInt.toNat) * 5) x), l)) rfl (fl_bo rfl) rfl (t2_im (t2_nn hz.1) (by decide +kernel) (by omega)) (by omega) (t2_upn rfl) ?_
  refine fl_Tq.stp (pc' := 17) (lv' := [some (.inr (.inr (.inl (51, 183)))), some (.inl x), some (.inl y), some (.inl z), some (.inl u), some (.inl v), some (.inl ((f 183 8) * (5 : Int32)))]) (st' := [.inr (.inr (.inl (51, 183)))]) (m' := (fl_row f 189 (upd (f 189) (((f 183 8).toInt.toNat) * 5) x), l)) rfl rfl (fl_bo rfl) rfl ?_
  refine fl_Tq.stp (pc' := 20) (lv' := [some (.inr (.inr (.inl (51, 183)))), some (.inl x), some (.inl y), some (.inl z), some (.inl u), some (.inl v), some (.inl ((f 183 8) * (5 : Int32)))]) (st' := [.inr (.inr (.inl (57, 189)))]) (m' := (fl_row f 189 (upd (f 189) (((f 183 8).toInt.toNat) * 5) x), l)) rfl rfl (fl_bo rfl) rfl ?_
  refine fl_Tq.stp (pc' := 22) (lv' := [some (.inr (.inr (.inl (51, 183)))), some (.inl x), some (.inl y), some (.inl z), some (.inl u), some (.inl v), some (.inl ((f 183 8) * (5 : Int32)))]) (st' := [.inl ((f 183 8) * (5 : Int32)), .inr (.inr (.inl (57, 189)))]) (m' := (fl_row f 189 (upd (f 189) (((f 183 8).toInt.toNat) * 5) x), l)) rfl rfl (fl_bo rfl) rfl ?_
  refine fl_Tq.cI (c := (1 : Int32)) rfl (by decide +kernel) (fl_bo rfl) ?_
  refine fl_Tq.stp (pc' := 24) (lv' := [some (.inr (.inr (.inl (51, 183)))), some (.inl x), some (.inl y), some (.inl z), some (.inl u), some (.inl v), some (.inl ((f 183 8) * (5 : Int32)))]) (st' := [.inl (((f 183 8) * (5 : Int32)) + (1 : Int32)), .inr (.inr (.inl (57, 189)))]) (m' := (fl_row f 189 (upd (f 189) (((f 183 8).toInt.toNat) * 5) x), l)) rfl rfl (fl_bo rfl) rfl ?_
  refine fl_Tq.stp (pc' := 25) (lv' := [some (.inr (.inr (.inl (51, 183)))), some (.inl x), some (.inl y), some (.inl z), some (.inl u), some (.inl v), some (.inl ((f 183 8) * (5 : Int32)))]) (st' := [.inl y, .inl (((f 183 8) * (5 : Int32)) + (1 : Int32)), .inr (.inr (.inl (57, 189)))]) (m' := (fl_row f 189 (upd (f 189) (((f 183 8).toInt.toNat) * 5) x), l)) rfl rfl (fl_bo rfl) rfl ?_
  refine fl_Tq.svV (p := 189) (τ := 57) (n := 40) (z := (0, 0, 0)) (k := (((f 183 8).toInt.toNat) * 5) + 1) (m' := (fl_row f 189 (upd (upd (f 189) (((f 183 8).toInt.toNat) * 5) x) ((((f 183 8).toInt.toNat) * 5) + 1) y), l)) rfl (fl_bo rfl) rfl (t2_ia (t2_im (t2_nn hz.1) (by decide +kernel) (by omega)) (by decide +kernel) (by omega)) (by omega) (t2_upr) ?_
  refine fl_Tq.stp (pc' := 27) (lv' := [some (.inr (.inr (.inl (51, 183)))), some (.inl x), some (.inl y), some (.inl z), some (.inl u), some (.inl v), some (.inl ((f 183 8) * (5 : Int32)))]) (st' := [.inr (.inr (.inl (51, 183)))]) (m' := (fl_row f 189 (upd (upd (f 189) (((f 183 8).toInt.toNat) * 5) x) ((((f 183 8).toInt.toNat) * 5) + 1) y), l)) rfl rfl (fl_bo rfl) rfl ?_
  refine fl_Tq.stp (pc' := 30) (lv' := [some (.inr (.inr (.inl (51, 183)))), some (.inl x), some (.inl y), some (.inl z), some (.inl u), some (.inl v), some (.inl ((f 183 8) * (5 : Int32)))]) (st' := [.inr (.inr (.inl (57, 189)))]) (m' := (fl_row f 189 (upd (upd (f 189) (((f 183 8).toInt.toNat) * 5) x) ((((f 183 8).toInt.toNat) * 5) + 1) y), l)) rfl rfl (fl_bo rfl) rfl ?_
  refine fl_Tq.stp (pc' := 32) (lv' := [some (.inr (.inr (.inl (51, 183)))), some (.inl x), some (.inl y), some (.inl z), some (.inl u), some (.inl v), some (.inl ((f 183 8) * (5 : Int32)))]) (st' := [.inl ((f 183 8) * (5 : Int32)), .inr (.inr (.inl (57, 189)))]) (m' := (fl_row f 189 (upd (upd (f 189) (((f 183 8).toInt.toNat) * 5) x) ((((f 183 8).toInt.toNat) * 5) + 1) y), l)) rfl rfl (fl_bo rfl) rfl ?_
  refine fl_Tq.cI (c := (2 : Int32)) rfl (by decide +kernel) (fl_bo rfl) ?_
  refine fl_Tq.stp (pc' := 34) (lv' := [some (.inr (.inr (.inl (51, 183)))), some (.inl x), some (.inl y), some (.inl z), some (.inl u), some (.inl v), some (.inl ((f 183 8) * (5 : Int32)))]) (st' := [.inl (((f 183 8) * (5 : Int32)) + (2 : Int32)), .inr (.inr (.inl (57, 189)))]) (m' := (fl_row f 189 (upd (upd (f 189) (((f 183 8).toInt.toNat) * 5) x) ((((f 183 8).toInt.toNat) * 5) + 1) y), l)) rfl rfl (fl_bo rfl) rfl ?_
  refine fl_Tq.stp (pc' := 35) (lv' := [some (.inr (.inr (.inl (51, 183)))), some (.inl x), some (.inl y), some (.inl z), some (.inl u), some (.inl v), some (.inl ((f 183 8) * (5 : Int32)))]) (st' := [.inl z, .inl (((f 183 8) * (5 : Int32)) + (2 : Int32)), .inr (.inr (.inl (57, 189)))]) (m' := (fl_row f 189 (upd (upd (f 189) (((f 183 8).toInt.toNat) * 5) x) ((((f 183 8).toInt.toNat) * 5) + 1) y), l)) rfl rfl (fl_bo rfl) rfl ?_
  refine fl_Tq.svV (p := 189) (τ := 57) (n := 40) (z := (0, 0, 0)) (k := (((f 183 8).toInt.toNat) * 5) + 2) (m' := (fl_row f 189 (upd (upd (upd (f 189) (((f 183 8).toInt.toNat) * 5) x) ((((f 183 8).toInt.toNat) * 5) + 1) y) ((((f 183 8).toInt.toNat) * 5) + 2) z), l)) rfl (fl_bo rfl) rfl (t2_ia (t2_im (t2_nn hz.1) (by decide +kernel) (by omega)) (by decide +kernel) (by omega)) (by omega) (t2_upr) ?_
  refine fl_Tq.stp (pc' := 37) (lv' := [some (.inr (.inr (.inl (51, 183)))), some (.inl x), some (.inl y), some (.inl z), some (.inl u), some (.inl v), some (.inl ((f 183 8) * (5 : Int32)))]) (st' := [.inr (.inr (.inl (51, 183)))]) (m' := (fl_row f 189 (upd (upd (upd (f 189) (((f 183 8).toInt.toNat) * 5) x) ((((f 183 8).toInt.toNat) * 5) + 1) y) ((((f 183 8).toInt.toNat) * 5) + 2) z), l)) rfl rfl (fl_bo rfl) rfl ?_
  refine fl_Tq.stp (pc' := 40) (lv' := [some (.inr (.inr (.inl (51, 183)))), some (.inl x), some (.inl y), some (.inl z), some (.inl u), some (.inl v), some (.inl ((f 183 8) * (5 : Int32)))]) (st' := [.inr (.inr (.inl (57, 189)))]) (m' := (fl_row f 189 (upd (upd (upd (f 189) (((f 183 8).toInt.toNat) * 5) x) ((((f 183 8).toInt.toNat) * 5) + 1) y) ((((f 183 8).toInt.toNat) * 5) + 2) z), l)) rfl rfl (fl_bo rfl) rfl ?_
  refine fl_Tq.stp (pc' := 42) (lv' := [some (.inr (.inr (.inl (51, 183)))), some (.inl x), some (.inl y), some (.inl z), some (.inl u), some (.inl v), some (.inl ((f 183 8) * (5 : Int32)))]) (st' := [.inl ((f 183 8) * (5 : Int32)), .inr (.inr (.inl (57, 189)))]) (m' := (fl_row f 189 (upd (upd (upd (f 189) (((f 183 8).toInt.toNat) * 5) x) ((((f 183 8).toInt.toNat) * 5) + 1) y) ((((f 183 8).toInt.toNat) * 5) + 2) z), l)) rfl rfl (fl_bo rfl) rfl ?_
  refine fl_Tq.cI (c := (3 : Int32)) rfl (by decide +kernel) (fl_bo rfl) ?_
  refine fl_Tq.stp (pc' := 44) (lv' := [some (.inr (.inr (.inl (51, 183)))), some (.inl x), some (.inl y), some (.inl z), some (.inl u), some (.inl v), some (.inl ((f 183 8) * (5 : Int32)))]) (st' := [.inl (((f 183 8) * (5 : Int32)) + (3 : Int32)), .inr (.inr (.inl (57, 189)))]) (m' := (fl_row f 189 (upd (upd (upd (f 189) (((f 183 8).toInt.toNat) * 5) x) ((((f 183 8).toInt.toNat) * 5) + 1) y) ((((f 183 8).toInt.toNat) * 5) + 2) z), l)) rfl rfl (fl_bo rfl) rfl ?_
  refine fl_Tq.stp (pc' := 46) (lv' := [some (.inr (.inr (.inl (51, 183)))), some (.inl x), some (.inl y), some (.inl z), some (.inl u), some (.inl v), some (.inl ((f 183 8) * (5 : Int32)))]) (st' := [.inl u, .inl (((f 183 8) * (5 : Int32)) + (3 : Int32)), .inr (.inr (.inl (57, 189)))]) (m' := (fl_row f 189 (upd (upd (upd (f 189) (((f 183 8).toInt.toNat) * 5) x) ((((f 183 8).toInt.toNat) * 5) + 1) y) ((((f 183 8).toInt.toNat) * 5) + 2) z), l)) rfl rfl (fl_bo rfl) rfl ?_
  refine fl_Tq.svV (p := 189) (τ := 57) (n := 40) (z := (0, 0, 0)) (k := (((f 183 8).toInt.toNat) * 5) + 3) (m' := (fl_row f 189 (upd (upd (upd (upd (f 189) (((f 183 8).toInt.toNat) * 5) x) ((((f 183 8).toInt.toNat) * 5) + 1) y) ((((f 183 8).toInt.toNat) * 5) + 2) z) ((((f 183 8).toInt.toNat) * 5) + 3) u), l)) rfl (fl_bo rfl) rfl (t2_ia (t2_im (t2_nn hz.1) (by decide +kernel) (by omega)) (by decide +kernel) (by omega)) (by omega) (t2_upr) ?_
  refine fl_Tq.stp (pc' := 48) (lv' := [some (.inr (.inr (.inl (51, 183)))), some (.inl x), some (.inl y), some (.inl z), some (.inl u), some (.inl v), some (.inl ((f 183 8) * (5 : Int32)))]) (st' := [.inr (.inr (.inl (51, 183)))]) (m' := (fl_row f 189 (upd (upd (upd (upd (f 189) (((f 183 8).toInt.toNat) * 5) x) ((((f 183 8).toInt.toNat) * 5) + 1) y) ((((f 183 8).toInt.toNat) * 5) + 2) z) ((((f 183 8).toInt.toNat) * 5) + 3) u), l)) rfl rfl (fl_bo rfl) rfl ?_
  refine fl_Tq.stp (pc' := 51) (lv' := [some (.inr (.inr (.inl (51, 183)))), some (.inl x), some (.inl y), some (.inl z), some (.inl u), some (.inl v), some (.inl ((f 183 8) * (5 : Int32)))]) (st' := [.inr (.inr (.inl (57, 189)))]) (m' := (fl_row f 189 (upd (upd (upd (upd (f 189) (((f 183 8).toInt.toNat) * 5) x) ((((f 183 8).toInt.toNat) * 5) + 1) y) ((((f 183 8).toInt.toNat) * 5) + 2) z) ((((f 183 8).toInt.toNat) * 5) + 3) u), l)) rfl rfl (fl_bo rfl) rfl ?_
  refine fl_Tq.stp (pc' := 53) (lv' := [some (.inr (.inr (.inl (51, 183)))), some (.inl x), some (.inl y), some (.inl z), some (.inl u), some (.inl v), some (.inl ((f 183 8) * (5 : Int32)))]) (st' := [.inl ((f 183 8) * (5 : Int32)), .inr (.inr (.inl (57, 189)))]) (m' := (fl_row f 189 (upd (upd (upd (upd (f 189) (((f 183 8).toInt.toNat) * 5) x) ((((f 183 8).toInt.toNat) * 5) + 1) y) ((((f 183 8).toInt.toNat) * 5) + 2) z) ((((f 183 8).toInt.toNat) * 5) + 3) u), l)) rfl rfl (fl_bo rfl) rfl ?_
  refine fl_Tq.cI (c := (4 : Int32)) rfl (by decide +kernel) (fl_bo rfl) ?_
  refine fl_Tq.stp (pc' := 55) (lv' := [some (.inr (.inr (.inl (51, 183)))), some (.inl x), some (.inl y), some (.inl z), some (.inl u), some (.inl v), some (.inl ((f 183 8) * (5 : Int32)))]) (st' := [.inl (((f 183 8) * (5 : Int32)) + (4 : Int32)), .inr (.inr (.inl (57, 189)))]) (m' := (fl_row f 189 (upd (upd (upd (upd (f 189) (((f 183 8).toInt.toNat) * 5) x) ((((f 183 8).toInt.toNat) * 5) + 1) y) ((((f 183 8).toInt.toNat) * 5) + 2) z) ((((f 183 8).toInt.toNat) * 5) + 3) u), l)) rfl rfl (fl_bo rfl) rfl ?_
  refine fl_Tq.stp (pc' := 57) (lv' := [some (.inr (.inr (.inl (51, 183)))), some (.inl x), some (.inl y), some (.inl z), some (.inl u), some (.inl v), some (.inl ((f 183 8) * (5 : Int32)))]) (st' := [.inl v, .inl (((f 183 8) * (5 : Int32)) + (4 : Int32)), .inr (.inr (.inl (57, 189)))]) (m' := (fl_row f 189 (upd (upd (upd (upd (f 189) (((f 183 8).toInt.toNat) * 5) x) ((((f 183 8).toInt.toNat) * 5) + 1) y) ((((f 183 8).toInt.toNat) * 5) + 2) z) ((((f 183 8).toInt.toNat) * 5) + 3) u), l)) rfl rfl (fl_bo rfl) rfl ?_
  refine fl_Tq.svV (p := 189) (τ := 57) (n := 40) (z := (0, 0, 0)) (k := (((f 183 8).toInt.toNat) * 5) + 4) (m' := (fl_row f 189 (upd (upd (upd (upd (upd (f 189) (((f 183 8).toInt.toNat) * 5) x) ((((f 183 8).toInt.toNat) * 5) + 1) y) ((((f 183 8).toInt.toNat) * 5) + 2) z) ((((f 183 8).toInt.toNat) * 5) + 3) u) ((((f 183 8).toInt.toNat) * 5) + 4) v), l)) rfl (fl_bo rfl) rfl (t2_ia (t2_im (t2_nn hz.1) (by decide +kernel) (by omega)) (by decide +kernel) (by omega)) (by omega) (t2_upr) ?_
  refine fl_Tq.stp (pc' := 59) (lv' := [some (.inr (.inr (.inl (51, 183)))), some (.inl x), some (.inl y), some (.inl z), some (.inl u), some (.inl v), some (.inl ((f 183 8) * (5 : Int32)))]) (st' := [.inr (.inr (.inl (51, 183)))]) (m' := (fl_row f 189 (upd (upd (upd (upd (upd (f 189) (((f 183 8).toInt.toNat) * 5) x) ((((f 183 8).toInt.toNat) * 5) + 1) y) ((((f 183 8).toInt.toNat) * 5) + 2) z) ((((f 183 8).toInt.toNat) * 5) + 3) u) ((((f 183 8).toInt.toNat) * 5) + 4) v), l)) rfl rfl (fl_bo rfl) rfl ?_
  refine fl_Tq.stp (pc' := 60) (lv' := [some (.inr (.inr (.inl (51, 183)))), some (.inl x), some (.inl y), some (.inl z), some (.inl u), some (.inl v), some (.inl ((f 183 8) * (5 : Int32)))]) (st' := [.inr (.inr (.inl (51, 183))), .inr (.inr (.inl (51, 183)))]) (m' := (fl_row f 189 (upd (upd (upd (upd (upd (f 189) (((f 183 8).toInt.toNat) * 5) x) ((((f 183 8).toInt.toNat) * 5) + 1) y) ((((f 183 8).toInt.toNat) * 5) + 2) z) ((((f 183 8).toInt.toNat) * 5) + 3) u) ((((f 183 8).toInt.toNat) * 5) + 4) v), l)) rfl rfl (fl_bo rfl) rfl ?_
  refine fl_Tq.gfV (k := 8) (v := f 183 8) rfl (fl_bo rfl) rfl (by simp only [fl_row_ne (by decide : 183 ≠ 189)]) ?_
  refine fl_Tq.cI (c := (1 : Int32)) rfl (by decide +kernel) (fl_bo rfl) ?_
  refine fl_Tq.stp (pc' := 65) (lv' := [some (.inr (.inr (.inl (51, 183)))), some (.inl x), some (.inl y), some (.inl z), some (.inl u), some (.inl v), some (.inl ((f 183 8) * (5 : Int32)))]) (st' := [.inl ((f 183 8) + (1 : Int32)), .inr (.inr (.inl (51, 183)))]) (m' := (fl_row f 189 (upd (upd (upd (upd (upd (f 189) (((f 183 8).toInt.toNat) * 5) x) ((((f 183 8).toInt.toNat) * 5) + 1) y) ((((f 183 8).toInt.toNat) * 5) + 2) z) ((((f 183 8).toInt.toNat) * 5) + 3) u) ((((f 183 8).toInt.toNat) * 5) + 4) v), l)) rfl rfl (fl_bo rfl) rfl ?_
  refine fl_Tq.pfV (k := 8) (m' := (fl_row (fl_row f 189 (upd (upd (upd (upd (upd (f 189) (((f 183 8).toInt.toNat) * 5) x) ((((f 183 8).toInt.toNat) * 5) + 1) y) ((((f 183 8).toInt.toNat) * 5) + 2) z) ((((f 183 8).toInt.toNat) * 5) + 3) u) ((((f 183 8).toInt.toNat) * 5) + 4) v)) 183 (upd (f 183) 8 ((f 183 8) + (1 : Int32))), l)) rfl (fl_bo rfl) rfl (t2_upn (by rw [fl_row_ne (by decide : 183 ≠ 189)])) ?_
  refine fl_Tq.stp (pc' := 69) (lv' := [some (.inr (.inr (.inl (51, 183)))), some (.inl x), some (.inl y), some (.inl z), some (.inl u), some (.inl v), some (.inl ((f 183 8) * (5 : Int32)))]) (st' := [.inr (.inr (.inl (51, 183)))]) (m' := (fl_row (fl_row f 189 (upd (upd (upd (upd (upd (f 189) (((f 183 8).toInt.toNat) * 5) x) ((((f 183 8).toInt.toNat) * 5) + 1) y) ((((f 183 8).toInt.toNat) * 5) + 2) z) ((((f 183 8).toInt.toNat) * 5) + 3) u) ((((f 183 8).toInt.toNat) * 5) + 4) v)) 183 (upd (f 183) 8 ((f 183 8) + (1 : Int32))), l)) rfl rfl (fl_bo rfl) rfl ?_
  refine fl_Tq.gfV (k := 8) (v := (f 183 8) + (1 : Int32)) rfl (fl_bo rfl) rfl (by simp only [fl_row_self, upd_self]) ?_
  exact fl_Tq.ret rfl rfl rfl k
noncomputable def c2_pieceSeconds_a4 (f : t2_F) : Nat → Int32
  | 0 => (0 : Int32)
  | k4 + 1 => (c2_pieceSeconds_a4 f k4) + (f 188 ((k4 * 2) + 1))
noncomputable def c2_pieceSeconds_v (f : t2_F) : Int32 := c2_pieceSeconds_a4 f ((f 183 7).toInt.toNat)
theorem c2_pieceSeconds_q {L : Nat} {xs : Nat → Int32} {f : t2_F} {l : t2_L} {Q : Option fl_V → fl_M → Prop}  (hz : 0 ≤ (f 183 7).toInt ∧ (f 183 7).toInt ≤ 24) (k : Q (some (.inl (c2_pieceSeconds_v f))) (f, l)) : fl_Tq (pw_P L xs) 82 0 (fl_args (am_mxl (pw_P L xs) 82) [.inr (.inr (.inl (51, 183)))]) [] (f, l) Q := by
  refine fl_Tq.cI (c := (0 : Int32)) rfl (by decide +kernel) (fl_bo rfl) ?_
  refine fl_Tq.stp (pc' := 2) (lv' := [some (.inr (.inr (.inl (51, 183)))), some (.inl (0 : Int32)), none]) (st' := []) (m' := (f, l)) rfl rfl (fl_bo rfl) rfl ?_
  refine fl_Tq.cI (c := (0 : Int32)) rfl (by decide +kernel) (fl_bo rfl) ?_
  refine fl_Tq.stp (pc' := 4) (lv' := [some (.inr (.inr (.inl (51, 183)))), some (.inl (0 : Int32)), some (.inl (0 : Int32))]) (st' := []) (m' := (f, l)) rfl rfl (fl_bo rfl) rfl ?_
  have hs4 : ∀ k4 : Nat, k4 < (f 183 7).toInt.toNat → fl_Tq (pw_P L xs) 82 4 [some (.inr (.inr (.inl (51, 183)))), some (.inl (c2_pieceSeconds_a4 f (k4 + 1))), some (.inl (Int32.ofNat (k4 + 1)))] [] (f, l) Q → fl_Tq (pw_P L xs) 82 4 [some (.inr (.inr (.inl (51, 183)))), some (.inl (c2_pieceSeconds_a4 f k4)), some (.inl (Int32.ofNat k4))] [] (f, l) Q := by
    intro k4 hk4 hS
    refine fl_Tq.stp (pc' := 5) (lv' := [some (.inr (.inr (.inl (51, 183)))), some (.inl (c2_pieceSeconds_a4 f k4)), some (.inl (Int32.ofNat k4))]) (st' := [.inl (Int32.ofNat k4)]) (m' := (f, l)) rfl rfl (fl_bo rfl) rfl ?_
    refine fl_Tq.stp (pc' := 6) (lv' := [some (.inr (.inr (.inl (51, 183)))), some (.inl (c2_pieceSeconds_a4 f k4)), some (.inl (Int32.ofNat k4))]) (st' := [.inr (.inr (.inl (51, 183))), .inl (Int32.ofNat k4)]) (m' := (f, l)) rfl rfl (fl_bo rfl) rfl ?_
    refine fl_Tq.gfV (k := 7) (v := f 183 7) rfl (fl_bo rfl) rfl rfl ?_
    refine fl_Tq.jf rfl (fl_bo rfl) (c2_ge_f (t2_lk hk4 (t2_nn hz.1))) rfl ?_
    refine fl_Tq.stp (pc' := 13) (lv' := [some (.inr (.inr (.inl (51, 183)))), some (.inl (c2_pieceSeconds_a4 f k4)), some (.inl (Int32.ofNat k4))]) (st' := [.inl (c2_pieceSeconds_a4 f k4)]) (m' := (f, l)) rfl rfl (fl_bo rfl) rfl ?_
    refine fl_Tq.stp (pc' := 14) (lv' := [some (.inr (.inr (.inl (51, 183)))), some (.inl (c2_pieceSeconds_a4 f k4)), some (.inl (Int32.ofNat k4))]) (st' := [.inr (.inr (.inl (51, 183))), .inl (c2_pieceSeconds_a4 f k4)]) (m' := (f, l)) rfl rfl (fl_bo rfl) rfl ?_
    refine fl_Tq.stp (pc' := 17) (lv' := [some (.inr (.inr (.inl (51, 183)))), some (.inl (c2_pieceSeconds_a4 f k4)), some (.inl (Int32.ofNat k4))]) (st' := [.inr (.inr (.inl (56, 188))), .inl (c2_pieceSeconds_a4 f k4)]) (m' := (f, l)) rfl rfl (fl_bo rfl) rfl ?_
    refine fl_Tq.stp (pc' := 18) (lv' := [some (.inr (.inr (.inl (51, 183)))), some (.inl (c2_pieceSeconds_a4 f k4)), some (.inl (Int32.ofNat k4))]) (st' := [.inl (Int32.ofNat k4), .inr (.inr (.inl (56, 188))), .inl (c2_pieceSeconds_a4 f k4)]) (m' := (f, l)) rfl rfl (fl_bo rfl) rfl ?_
    refine fl_Tq.cI (c := (2 : Int32)) rfl (by decide +kernel) (fl_bo rfl) ?_
    refine fl_Tq.stp (pc' := 20) (lv' := [some (.inr (.inr (.inl (51, 183)))), some (.inl (c2_pieceSeconds_a4 f k4)), some (.inl (Int32.ofNat k4))]) (st' := [.inl ((Int32.ofNat k4) * (2 : Int32)), .inr (.inr (.inl (56, 188))), .inl (c2_pieceSeconds_a4 f k4)]) (m' := (f, l)) rfl rfl (fl_bo rfl) rfl ?_
    refine fl_Tq.cI (c := (1 : Int32)) rfl (by decide +kernel) (fl_bo rfl) ?_
    refine fl_Tq.stp (pc' := 22) (lv' := [some (.inr (.inr (.inl (51, 183)))), some (.inl (c2_pieceSeconds_a4 f k4)), some (.inl (Int32.ofNat k4))]) (st' := [.inl (((Int32.ofNat k4) * (2 : Int32)) + (1 : Int32)), .inr (.inr (.inl (56, 188))), .inl (c2_pieceSeconds_a4 f k4)]) (m' := (f, l)) rfl rfl (fl_bo rfl) rfl ?_
    refine fl_Tq.ldV (p := 188) (τ := 56) (n := 48) (z := (0, 0, 0)) (k := (k4 * 2) + 1) (v := f 188 ((k4 * 2) + 1)) rfl (fl_bo rfl) rfl (t2_ia (t2_im (at_ofN (by omega)) (by decide +kernel) (by omega)) (by decide +kernel) (by omega)) (by omega) rfl ?_
    refine fl_Tq.stp (pc' := 24) (lv' := [some (.inr (.inr (.inl (51, 183)))), some (.inl (c2_pieceSeconds_a4 f k4)), some (.inl (Int32.ofNat k4))]) (st' := [.inl ((c2_pieceSeconds_a4 f k4) + (f 188 ((k4 * 2) + 1)))]) (m' := (f, l)) rfl rfl (fl_bo rfl) rfl ?_
    refine fl_Tq.stp (pc' := 25) (lv' := [some (.inr (.inr (.inl (51, 183)))), some (.inl ((c2_pieceSeconds_a4 f k4) + (f 188 ((k4 * 2) + 1)))), some (.inl (Int32.ofNat k4))]) (st' := []) (m' := (f, l)) rfl rfl (fl_bo rfl) rfl ?_
    refine fl_Tq.stp (pc' := 28) (lv' := [some (.inr (.inr (.inl (51, 183)))), some (.inl ((c2_pieceSeconds_a4 f k4) + (f 188 ((k4 * 2) + 1)))), some (.inl ((Int32.ofNat k4) + (1 : Int32)))]) (st' := []) (m' := (f, l)) rfl rfl (fl_bo rfl) rfl ?_
    refine fl_Tq.stp (pc' := 4) (lv' := [some (.inr (.inr (.inl (51, 183)))), some (.inl ((c2_pieceSeconds_a4 f k4) + (f 188 ((k4 * 2) + 1)))), some (.inl ((Int32.ofNat k4) + (1 : Int32)))]) (st' := []) (m' := (f, l)) rfl rfl (fl_bo rfl) rfl ?_
    have ea : c2_pieceSeconds_a4 f (k4 + 1) = (c2_pieceSeconds_a4 f k4) + (f 188 ((k4 * 2) + 1)) := by
      show ((c2_pieceSeconds_a4 f k4) + (f 188 ((k4 * 2) + 1))) = _
      rfl
    rw [ea, ← t2_k1] at hS
    exact hS
  refine t2_for (S := fun k4 => fl_Tq (pw_P L xs) 82 4 [some (.inr (.inr (.inl (51, 183)))), some (.inl (c2_pieceSeconds_a4 f k4)), some (.inl (Int32.ofNat k4))] [] (f, l) Q) hs4 ?_
  show fl_Tq (pw_P L xs) 82 4 [some (.inr (.inr (.inl (51, 183)))), some (.inl (c2_pieceSeconds_a4 f ((f 183 7).toInt.toNat))), some (.inl (Int32.ofNat ((f 183 7).toInt.toNat)))] [] (f, l) _
  refine fl_Tq.stp (pc' := 5) (lv' := [some (.inr (.inr (.inl (51, 183)))), some (.inl (c2_pieceSeconds_a4 f ((f 183 7).toInt.toNat))), some (.inl (Int32.ofNat ((f 183 7).toInt.toNat)))]) (st' := [.inl (Int32.ofNat ((f 183 7).toInt.toNat))]) (m' := (f, l)) rfl rfl (fl_bo rfl) rfl ?_
  refine fl_Tq.stp (pc' := 6) (lv' := [some (.inr (.inr (.inl (51, 183)))), some (.inl (c2_pieceSeconds_a4 f ((f 183 7).toInt.toNat))), some (.inl (Int32.ofNat ((f 183 7).toInt.toNat)))]) (st' := [.inr (.inr (.inl (51, 183))), .inl (Int32.ofNat ((f 183 7).toInt.toNat))]) (m' := (f, l)) rfl rfl (fl_bo rfl) rfl ?_
  refine fl_Tq.gfV (k := 7) (v := f 183 7) rfl (fl_bo rfl) rfl rfl ?_
  refine fl_Tq.jt rfl (fl_bo rfl) (c2_ge_t (t2_ln (t2_nn hz.1))) rfl ?_
  refine fl_Tq.stp (pc' := 32) (lv' := [some (.inr (.inr (.inl (51, 183)))), some (.inl (c2_pieceSeconds_a4 f ((f 183 7).toInt.toNat))), some (.inl (Int32.ofNat ((f 183 7).toInt.toNat)))]) (st' := [.inl (c2_pieceSeconds_a4 f ((f 183 7).toInt.toNat))]) (m' := (f, l)) rfl rfl (fl_bo rfl) rfl ?_
  exact fl_Tq.ret rfl rfl rfl k
noncomputable def c2_goesOn_j34_0 (f : t2_F) (i : Nat) (x : Int32) : Int32 := if (f (200 + 4 * i) (((f (199 + 4 * i) 2).toInt.toNat) - 2)).toInt < (f (200 + 4 * i) (((f (199 + 4 * i) 2).toInt.toNat) - 1)).toInt then (1 : Int32) else (0 : Int32)
noncomputable def c2_goesOn_j44_0 (f : t2_F) (i : Nat) (x : Int32) : Int32 := if (f (200 + 4 * i) (((f (199 + 4 * i) 2).toInt.toNat) - 1)).toInt < x.toInt then (1 : Int32) else (0 : Int32)
noncomputable def c2_goesOn_v (f : t2_F) (i : Nat) (x : Int32) : Int32 := if (f (199 + 4 * i) 2).toInt < (2 : Int32).toInt then (0 : Int32) else (if (c2_goesOn_j34_0 f i x).toInt = (c2_goesOn_j44_0 f i x).toInt then (1 : Int32) else (0 : Int32))
theorem c2_goesOn_q {L : Nat} {xs : Nat → Int32} {f : t2_F} {l : t2_L} {Q : Option fl_V → fl_M → Prop} {i : Nat} {x : Int32} (hi : i < 16) (ht : 0 ≤ (f (199 + 4 * i) 2).toInt ∧ (f (199 + 4 * i) 2).toInt ≤ 32) (k : Q (some (.inl (c2_goesOn_v f i x))) (f, l)) : fl_Tq (pw_P L xs) 89 0 (fl_args (am_mxl (pw_P L xs) 89) [.inr (.inr (.inl (67, 199 + 4 * i))), .inl x]) [] (f, l) Q := by
  refine fl_Tq.stp (pc' := 1) (lv' := [some (.inr (.inr (.inl (67, 199 + 4 * i)))), some (.inl x), none]) (st' := [.inr (.inr (.inl (67, 199 + 4 * i)))]) (m' := (f, l)) rfl rfl (fl_bo rfl) rfl ?_
  refine fl_Tq.gfV (k := 2) (v := f (199 + 4 * i) 2) rfl (fl_oks_ok ⟨(t2_kt2 (by omega)), True.intro⟩) rfl rfl ?_
  refine fl_Tq.cI (c := (2 : Int32)) rfl (by decide +kernel) (fl_bo rfl) ?_
  by_cases h1 : (f (199 + 4 * i) 2).toInt < (2 : Int32).toInt
  · refine fl_Tq.jf rfl (fl_bo rfl) (c2_ge_f h1) rfl ?_
    refine fl_Tq.cI (c := (0 : Int32)) rfl (by decide +kernel) (fl_bo rfl) ?_
    refine fl_Tq.ret rfl rfl rfl ?_
    unfold c2_goesOn_v at k
    simp only [if_pos h1] at k
    exact k
  · refine fl_Tq.jt rfl (fl_bo rfl) (c2_ge_t h1) rfl ?_
    refine fl_Tq.stp (pc' := 11) (lv' := [some (.inr (.inr (.inl (67, 199 + 4 * i)))), some (.inl x), none]) (st' := [.inr (.inr (.inl (67, 199 + 4 * i)))]) (m' := (f, l)) rfl rfl (fl_bo rfl) rfl ?_
    refine fl_Tq.gfR (d := 1) (p' := 200 + 4 * i) rfl (fl_oks_ok ⟨(t2_kt2 (by omega)), True.intro⟩) rfl (by omega) ?_
    refine fl_Tq.stp (pc' := 15) (lv' := [some (.inr (.inr (.inl (67, 199 + 4 * i)))), some (.inl x), none]) (st' := [.inr (.inr (.inl (67, 199 + 4 * i))), .inr (.inr (.inl (68, 200 + 4 * i)))]) (m' := (f, l)) rfl rfl (fl_oks_ok ⟨(t2_ka2 (by omega)), True.intro⟩) rfl ?_
    refine fl_Tq.gfV (k := 2) (v := f (199 + 4 * i) 2) rfl (fl_oks_ok ⟨(t2_kt2 (by omega)), (t2_ka2 (by omega)), True.intro⟩) rfl rfl ?_
    refine fl_Tq.cI (c := (1 : Int32)) rfl (by decide +kernel) (fl_oks_ok ⟨True.intro, (t2_ka2 (by omega)), True.intro⟩) ?_
    refine fl_Tq.stp (pc' := 20) (lv' := [some (.inr (.inr (.inl (67, 199 + 4 * i)))), some (.inl x), none]) (st' := [.inl ((f (199 + 4 * i) 2) - (1 : Int32)), .inr (.inr (.inl (68, 200 + 4 * i)))]) (m' := (f, l)) rfl rfl (fl_oks_ok ⟨True.intro, True.intro, (t2_ka2 (by omega)), True.intro⟩) rfl ?_
    refine fl_Tq.ldV (p := 200 + 4 * i) (τ := 68) (n := 32) (z := (0, 0, 0)) (k := ((f (199 + 4 * i) 2).toInt.toNat) - 1) (v := f (200 + 4 * i) (((f (199 + 4 * i) 2).toInt.toNat) - 1)) rfl (fl_oks_ok ⟨True.intro, (t2_ka2 (by omega)), True.intro⟩) rfl (t2_is (t2_nn ht.1) (by decide +kernel) (by have c2 : (2 : Int32).toInt = 2 := (by decide +kernel); omega)) (by have c2 : (2 : Int32).toInt = 2 := (by decide +kernel); omega) rfl ?_
    refine fl_Tq.stp (pc' := 22) (lv' := [some (.inr (.inr (.inl (67, 199 + 4 * i)))), some (.inl x), some (.inl (f (200 + 4 * i) (((f (199 + 4 * i) 2).toInt.toNat) - 1)))]) (st' := []) (m' := (f, l)) rfl rfl (fl_bo rfl) rfl ?_
    refine fl_Tq.stp (pc' := 23) (lv' := [some (.inr (.inr (.inl (67, 199 + 4 * i)))), some (.inl x), some (.inl (f (200 + 4 * i) (((f (199 + 4 * i) 2).toInt.toNat) - 1)))]) (st' := [.inl (f (200 + 4 * i) (((f (199 + 4 * i) 2).toInt.toNat) - 1))]) (m' := (f, l)) rfl rfl (fl_bo rfl) rfl ?_
    refine fl_Tq.stp (pc' := 24) (lv' := [some (.inr (.inr (.inl (67, 199 + 4 * i)))), some (.inl x), some (.inl (f (200 + 4 * i) (((f (199 + 4 * i) 2).toInt.toNat) - 1)))]) (st' := [.inr (.inr (.inl (67, 199 + 4 * i))), .inl (f (200 + 4 * i) (((f (199 + 4 * i) 2).toInt.toNat) - 1))]) (m' := (f, l)) rfl rfl (fl_bo rfl) rfl ?_
    refine fl_Tq.gfR (d := 1) (p' := 200 + 4 * i) rfl (fl_oks_ok ⟨(t2_kt2 (by omega)), True.intro, True.intro⟩) rfl (by omega) ?_
    refine fl_Tq.stp (pc' := 28) (lv' := [some (.inr (.inr (.inl (67, 199 + 4 * i)))), some (.inl x), some (.inl (f (200 + 4 * i) (((f (199 + 4 * i) 2).toInt.toNat) - 1)))]) (st' := [.inr (.inr (.inl (67, 199 + 4 * i))), .inr (.inr (.inl (68, 200 + 4 * i))), .inl (f (200 + 4 * i) (((f (199 + 4 * i) 2).toInt.toNat) - 1))]) (m' := (f, l)) rfl rfl (fl_oks_ok ⟨(t2_ka2 (by omega)), True.intro, True.intro⟩) rfl ?_
    refine fl_Tq.gfV (k := 2) (v := f (199 + 4 * i) 2) rfl (fl_oks_ok ⟨(t2_kt2 (by omega)), (t2_ka2 (by omega)), True.intro, True.intro⟩) rfl rfl ?_
    refine fl_Tq.cI (c := (2 : Int32)) rfl (by decide +kernel) (fl_oks_ok ⟨True.intro, (t2_ka2 (by omega)), True.intro, True.intro⟩) ?_
    refine fl_Tq.stp (pc' := 33) (lv' := [some (.inr (.inr (.inl (67, 199 + 4 * i)))), some (.inl x), some (.inl (f (200 + 4 * i) (((f (199 + 4 * i) 2).toInt.toNat) - 1)))]) (st' := [.inl ((f (199 + 4 * i) 2) - (2 : Int32)), .inr (.inr (.inl (68, 200 + 4 * i))), .inl (f (200 + 4 * i) (((f (199 + 4 * i) 2).toInt.toNat) - 1))]) (m' := (f, l)) rfl rfl (fl_oks_ok ⟨True.intro, True.intro, (t2_ka2 (by omega)), True.intro, True.intro⟩) rfl ?_
    refine fl_Tq.ldV (p := 200 + 4 * i) (τ := 68) (n := 32) (z := (0, 0, 0)) (k := ((f (199 + 4 * i) 2).toInt.toNat) - 2) (v := f (200 + 4 * i) (((f (199 + 4 * i) 2).toInt.toNat) - 2)) rfl (fl_oks_ok ⟨True.intro, (t2_ka2 (by omega)), True.intro, True.intro⟩) rfl (t2_is (t2_nn ht.1) (by decide +kernel) (by have c2 : (2 : Int32).toInt = 2 := (by decide +kernel); omega)) (by have c2 : (2 : Int32).toInt = 2 := (by decide +kernel); omega) rfl ?_
    have hj56 : fl_Tq (pw_P L xs) 89 42 [some (.inr (.inr (.inl (67, 199 + 4 * i)))), some (.inl x), some (.inl (f (200 + 4 * i) (((f (199 + 4 * i) 2).toInt.toNat) - 1)))] [.inl (c2_goesOn_j34_0 f i x)] (f, l) Q → fl_Tq (pw_P L xs) 89 34 [some (.inr (.inr (.inl (67, 199 + 4 * i)))), some (.inl x), some (.inl (f (200 + 4 * i) (((f (199 + 4 * i) 2).toInt.toNat) - 1)))] [.inl (f (200 + 4 * i) (((f (199 + 4 * i) 2).toInt.toNat) - 2)), .inl (f (200 + 4 * i) (((f (199 + 4 * i) 2).toInt.toNat) - 1))] (f, l) Q := by
      intro hJ
      by_cases h2 : (f (200 + 4 * i) (((f (199 + 4 * i) 2).toInt.toNat) - 2)).toInt < (f (200 + 4 * i) (((f (199 + 4 * i) 2).toInt.toNat) - 1)).toInt
      · refine fl_Tq.jf rfl (fl_bo rfl) (c2_le_f h2) rfl ?_
        refine fl_Tq.cI (c := (1 : Int32)) rfl (by decide +kernel) (fl_bo rfl) ?_
        refine fl_Tq.stp (pc' := 42) (lv' := [some (.inr (.inr (.inl (67, 199 + 4 * i)))), some (.inl x), some (.inl (f (200 + 4 * i) (((f (199 + 4 * i) 2).toInt.toNat) - 1)))]) (st' := [.inl (1 : Int32)]) (m' := (f, l)) rfl rfl (fl_bo rfl) rfl ?_
        have e0 : (c2_goesOn_j34_0 f i x) = (1 : Int32) := by simp only [c2_goesOn_j34_0, if_pos h2]
        rw [e0] at hJ
        exact hJ
      · refine fl_Tq.jt rfl (fl_bo rfl) (c2_le_t h2) rfl ?_
        refine fl_Tq.cI (c := (0 : Int32)) rfl (by decide +kernel) (fl_bo rfl) ?_
        have e0 : (c2_goesOn_j34_0 f i x) = (0 : Int32) := by simp only [c2_goesOn_j34_0, if_neg h2]
        rw [e0] at hJ
        exact hJ
    refine hj56 ?_
    show fl_Tq _ 89 42 [some (.inr (.inr (.inl (67, 199 + 4 * i)))), some (.inl x), some (.inl (f (200 + 4 * i) (((f (199 + 4 * i) 2).toInt.toNat) - 1)))] [.inl (c2_goesOn_j34_0 f i x)] (f, l) _
    refine fl_Tq.stp (pc' := 43) (lv' := [some (.inr (.inr (.inl (67, 199 + 4 * i)))), some (.inl x), some (.inl (f (200 + 4 * i) (((f (199 + 4 * i) 2).toInt.toNat) - 1)))]) (st' := [.inl x, .inl (c2_goesOn_j34_0 f i x)]) (m' := (f, l)) rfl rfl (fl_bo rfl) rfl ?_
    refine fl_Tq.stp (pc' := 44) (lv' := [some (.inr (.inr (.inl (67, 199 + 4 * i)))), some (.inl x), some (.inl (f (200 + 4 * i) (((f (199 + 4 * i) 2).toInt.toNat) - 1)))]) (st' := [.inl (f (200 + 4 * i) (((f (199 + 4 * i) 2).toInt.toNat) - 1)), .inl x, .inl (c2_goesOn_j34_0 f i x)]) (m' := (f, l)) rfl rfl (fl_bo rfl) rfl ?_
    have hj57 : fl_Tq (pw_P L xs) 89 52 [some (.inr (.inr (.inl (67, 199 + 4 * i)))), some (.inl x), some (.inl (f (200 + 4 * i) (((f (199 + 4 * i) 2).toInt.toNat) - 1)))] [.inl (c2_goesOn_j44_0 f i x), .inl (c2_goesOn_j34_0 f i x)] (f, l) Q → fl_Tq (pw_P L xs) 89 44 [some (.inr (.inr (.inl (67, 199 + 4 * i)))), some (.inl x), some (.inl (f (200 + 4 * i) (((f (199 + 4 * i) 2).toInt.toNat) - 1)))] [.inl (f (200 + 4 * i) (((f (199 + 4 * i) 2).toInt.toNat) - 1)), .inl x, .inl (c2_goesOn_j34_0 f i x)] (f, l) Q := by
      intro hJ
      by_cases h3 : (f (200 + 4 * i) (((f (199 + 4 * i) 2).toInt.toNat) - 1)).toInt < x.toInt
      · refine fl_Tq.jf rfl (fl_bo rfl) (c2_le_f h3) rfl ?_
        refine fl_Tq.cI (c := (1 : Int32)) rfl (by decide +kernel) (fl_bo rfl) ?_
        refine fl_Tq.stp (pc' := 52) (lv' := [some (.inr (.inr (.inl (67, 199 + 4 * i)))), some (.inl x), some (.inl (f (200 + 4 * i) (((f (199 + 4 * i) 2).toInt.toNat) - 1)))]) (st' := [.inl (1 : Int32), .inl (c2_goesOn_j34_0 f i x)]) (m' := (f, l)) rfl rfl (fl_bo rfl) rfl ?_
        have e0 : (c2_goesOn_j44_0 f i x) = (1 : Int32) := by simp only [c2_goesOn_j44_0, if_pos h3]
        rw [e0] at hJ
        exact hJ
      · refine fl_Tq.jt rfl (fl_bo rfl) (c2_le_t h3) rfl ?_
        refine fl_Tq.cI (c := (0 : Int32)) rfl (by decide +kernel) (fl_bo rfl) ?_
        have e0 : (c2_goesOn_j44_0 f i x) = (0 : Int32) := by simp only [c2_goesOn_j44_0, if_neg h3]
        rw [e0] at hJ
        exact hJ
    refine hj57 ?_
    show fl_Tq _ 89 52 [some (.inr (.inr (.inl (67, 199 + 4 * i)))), some (.inl x), some (.inl (f (200 + 4 * i) (((f (199 + 4 * i) 2).toInt.toNat) - 1)))] [.inl (c2_goesOn_j44_0 f i x), .inl (c2_goesOn_j34_0 f i x)] (f, l) _
    by_cases h4 : (c2_goesOn_j34_0 f i x).toInt = (c2_goesOn_j44_0 f i x).toInt
    · refine fl_Tq.jf rfl (fl_bo rfl) (c2_ne_f h4) rfl ?_
      refine fl_Tq.cI (c := (1 : Int32)) rfl (by decide +kernel) (fl_bo rfl) ?_
      refine fl_Tq.stp (pc' := 60) (lv' := [some (.inr (.inr (.inl (67, 199 + 4 * i)))), some (.inl x), some (.inl (f (200 + 4 * i) (((f (199 + 4 * i) 2).toInt.toNat) - 1)))]) (st' := [.inl (1 : Int32)]) (m' := (f, l)) rfl rfl (fl_bo rfl) rfl ?_
      refine fl_Tq.ret rfl rfl rfl ?_
      unfold c2_goesOn_v at k
      simp only [if_neg h1, if_pos h4] at k
      exact k
    · refine fl_Tq.jt rfl (fl_bo rfl) (c2_ne_t h4) rfl ?_
      refine fl_Tq.cI (c := (0 : Int32)) rfl (by decide +kernel) (fl_bo rfl) ?_
      refine fl_Tq.ret rfl rfl rfl ?_
      unfold c2_goesOn_v at k
      simp only [if_neg h1, if_neg h4] at k
      exact k
noncomputable def c2_way_j17_0 (f : t2_F) (i : Nat) (x : Int32) : Int32 := if ((f (200 + 4 * i) (x.toInt.toNat + 1)) - (f (200 + 4 * i) x.toInt.toNat)).toInt < 0 then -((f (200 + 4 * i) (x.toInt.toNat + 1)) - (f (200 + 4 * i) x.toInt.toNat)) else (f (200 + 4 * i) (x.toInt.toNat + 1)) - (f (200 + 4 * i) x.toInt.toNat)
noncomputable def c2_way_v (f : t2_F) (i : Nat) (x : Int32) : Int32 := c2_way_j17_0 f i x
theorem c2_way_q {L : Nat} {xs : Nat → Int32} {f : t2_F} {l : t2_L} {Q : Option fl_V → fl_M → Prop} {i : Nat} {x : Int32} (hi : i < 16) (hx : 0 ≤ x.toInt ∧ x.toInt + 1 < 32) (k : Q (some (.inl (c2_way_v f i x))) (f, l)) : fl_Tq (pw_P L xs) 92 0 (fl_args (am_mxl (pw_P L xs) 92) [.inr (.inr (.inl (67, 199 + 4 * i))), .inl x]) [] (f, l) Q := by
  refine fl_Tq.stp (pc' := 1) (lv' := [some (.inr (.inr (.inl (67, 199 + 4 * i)))), some (.inl x), none]) (st' := [.inr (.inr (.inl (67, 199 + 4 * i)))]) (m' := (f, l)) rfl rfl (fl_bo rfl) rfl ?_
  refine fl_Tq.gfR (d := 1) (p' := 200 + 4 * i) rfl (fl_oks_ok ⟨(t2_kt2 (by omega)), True.intro⟩) rfl (by omega) ?_
  refine fl_Tq.stp (pc' := 5) (lv' := [some (.inr (.inr (.inl (67, 199 + 4 * i)))), some (.inl x), none]) (st' := [.inl x, .inr (.inr (.inl (68, 200 + 4 * i)))]) (m' := (f, l)) rfl rfl (fl_oks_ok ⟨(t2_ka2 (by omega)), True.intro⟩) rfl ?_
  refine fl_Tq.cI (c := (1 : Int32)) rfl (by decide +kernel) (fl_oks_ok ⟨True.intro, (t2_ka2 (by omega)), True.intro⟩) ?_
  refine fl_Tq.stp (pc' := 7) (lv' := [some (.inr (.inr (.inl (67, 199 + 4 * i)))), some (.inl x), none]) (st' := [.inl (x + (1 : Int32)), .inr (.inr (.inl (68, 200 + 4 * i)))]) (m' := (f, l)) rfl rfl (fl_oks_ok ⟨True.intro, True.intro, (t2_ka2 (by omega)), True.intro⟩) rfl ?_
  refine fl_Tq.ldV (p := 200 + 4 * i) (τ := 68) (n := 32) (z := (0, 0, 0)) (k := x.toInt.toNat + 1) (v := f (200 + 4 * i) (x.toInt.toNat + 1)) rfl (fl_oks_ok ⟨True.intro, (t2_ka2 (by omega)), True.intro⟩) rfl (t2_ia (t2_nn hx.1) (by decide +kernel) (by omega)) (by omega) rfl ?_
  refine fl_Tq.stp (pc' := 9) (lv' := [some (.inr (.inr (.inl (67, 199 + 4 * i)))), some (.inl x), none]) (st' := [.inr (.inr (.inl (67, 199 + 4 * i))), .inl (f (200 + 4 * i) (x.toInt.toNat + 1))]) (m' := (f, l)) rfl rfl (fl_bo rfl) rfl ?_
  refine fl_Tq.gfR (d := 1) (p' := 200 + 4 * i) rfl (fl_oks_ok ⟨(t2_kt2 (by omega)), True.intro, True.intro⟩) rfl (by omega) ?_
  refine fl_Tq.stp (pc' := 13) (lv' := [some (.inr (.inr (.inl (67, 199 + 4 * i)))), some (.inl x), none]) (st' := [.inl x, .inr (.inr (.inl (68, 200 + 4 * i))), .inl (f (200 + 4 * i) (x.toInt.toNat + 1))]) (m' := (f, l)) rfl rfl (fl_oks_ok ⟨(t2_ka2 (by omega)), True.intro, True.intro⟩) rfl ?_
  refine fl_Tq.ldV (p := 200 + 4 * i) (τ := 68) (n := 32) (z := (0, 0, 0)) (k := x.toInt.toNat) (v := f (200 + 4 * i) x.toInt.toNat) rfl (fl_oks_ok ⟨True.intro, (t2_ka2 (by omega)), True.intro, True.intro⟩) rfl (t2_nn hx.1) (by omega) rfl ?_
  refine fl_Tq.stp (pc' := 15) (lv' := [some (.inr (.inr (.inl (67, 199 + 4 * i)))), some (.inl x), none]) (st' := [.inl ((f (200 + 4 * i) (x.toInt.toNat + 1)) - (f (200 + 4 * i) x.toInt.toNat))]) (m' := (f, l)) rfl rfl (fl_bo rfl) rfl ?_
  refine fl_Tq.stp (pc' := 16) (lv' := [some (.inr (.inr (.inl (67, 199 + 4 * i)))), some (.inl x), some (.inl ((f (200 + 4 * i) (x.toInt.toNat + 1)) - (f (200 + 4 * i) x.toInt.toNat)))]) (st' := []) (m' := (f, l)) rfl rfl (fl_bo rfl) rfl ?_
  refine fl_Tq.stp (pc' := 17) (lv' := [some (.inr (.inr (.inl (67, 199 + 4 * i)))), some (.inl x), some (.inl ((f (200 + 4 * i) (x.toInt.toNat + 1)) - (f (200 + 4 * i) x.toInt.toNat)))]) (st' := [.inl ((f (200 + 4 * i) (x.toInt.toNat + 1)) - (f (200 + 4 * i) x.toInt.toNat))]) (m' := (f, l)) rfl rfl (fl_bo rfl) rfl ?_
  have hj58 : fl_Tq (pw_P L xs) 92 26 [some (.inr (.inr (.inl (67, 199 + 4 * i)))), some (.inl x), some (.inl ((f (200 + 4 * i) (x.toInt.toNat + 1)) - (f (200 + 4 * i) x.toInt.toNat)))] [.inl (c2_way_j17_0 f i x)] (f, l) Q → fl_Tq (pw_P L xs) 92 17 [some (.inr (.inr (.inl (67, 199 + 4 * i)))), some (.inl x), some (.inl ((f (200 + 4 * i) (x.toInt.toNat + 1)) - (f (200 + 4 * i) x.toInt.toNat)))] [.inl ((f (200 + 4 * i) (x.toInt.toNat + 1)) - (f (200 + 4 * i) x.toInt.toNat))] (f, l) Q := by
    intro hJ
    by_cases h1 : ((f (200 + 4 * i) (x.toInt.toNat + 1)) - (f (200 + 4 * i) x.toInt.toNat)).toInt < 0
    · refine fl_Tq.zf rfl (fl_bo rfl) (c1_ge_f h1) rfl ?_
      refine fl_Tq.stp (pc' := 21) (lv' := [some (.inr (.inr (.inl (67, 199 + 4 * i)))), some (.inl x), some (.inl ((f (200 + 4 * i) (x.toInt.toNat + 1)) - (f (200 + 4 * i) x.toInt.toNat)))]) (st' := [.inl ((f (200 + 4 * i) (x.toInt.toNat + 1)) - (f (200 + 4 * i) x.toInt.toNat))]) (m' := (f, l)) rfl rfl (fl_bo rfl) rfl ?_
      refine fl_Tq.stp (pc' := 22) (lv' := [some (.inr (.inr (.inl (67, 199 + 4 * i)))), some (.inl x), some (.inl ((f (200 + 4 * i) (x.toInt.toNat + 1)) - (f (200 + 4 * i) x.toInt.toNat)))]) (st' := [.inl (-((f (200 + 4 * i) (x.toInt.toNat + 1)) - (f (200 + 4 * i) x.toInt.toNat)))]) (m' := (f, l)) rfl rfl (fl_bo rfl) rfl ?_
      refine fl_Tq.stp (pc' := 26) (lv' := [some (.inr (.inr (.inl (67, 199 + 4 * i)))), some (.inl x), some (.inl ((f (200 + 4 * i) (x.toInt.toNat + 1)) - (f (200 + 4 * i) x.toInt.toNat)))]) (st' := [.inl (-((f (200 + 4 * i) (x.toInt.toNat + 1)) - (f (200 + 4 * i) x.toInt.toNat)))]) (m' := (f, l)) rfl rfl (fl_bo rfl) rfl ?_
      have e0 : (c2_way_j17_0 f i x) = -((f (200 + 4 * i) (x.toInt.toNat + 1)) - (f (200 + 4 * i) x.toInt.toNat)) := by simp only [c2_way_j17_0, if_pos h1]
      rw [e0] at hJ
      exact hJ
    · refine fl_Tq.zt rfl (fl_bo rfl) (c1_ge_t h1) rfl ?_
      refine fl_Tq.stp (pc' := 26) (lv' := [some (.inr (.inr (.inl (67, 199 + 4 * i)))), some (.inl x), some (.inl ((f (200 + 4 * i) (x.toInt.toNat + 1)) - (f (200 + 4 * i) x.toInt.toNat)))]) (st' := [.inl ((f (200 + 4 * i) (x.toInt.toNat + 1)) - (f (200 + 4 * i) x.toInt.toNat))]) (m' := (f, l)) rfl rfl (fl_bo rfl) rfl ?_
      have e0 : (c2_way_j17_0 f i x) = (f (200 + 4 * i) (x.toInt.toNat + 1)) - (f (200 + 4 * i) x.toInt.toNat) := by simp only [c2_way_j17_0, if_neg h1]
      rw [e0] at hJ
      exact hJ
  refine hj58 ?_
  show fl_Tq _ 92 26 [some (.inr (.inr (.inl (67, 199 + 4 * i)))), some (.inl x), some (.inl ((f (200 + 4 * i) (x.toInt.toNat + 1)) - (f (200 + 4 * i) x.toInt.toNat)))] [.inl (c2_way_j17_0 f i x)] (f, l) _
  exact fl_Tq.ret rfl rfl rfl k
noncomputable def c2_greatestAbove_a8 (f : t2_F) (x y : Int32) : Nat → Int32 × Int32
  | 0 => ((-1 : Int32), x)
  | k8 + 1 => (if ((y >>> ((Int32.ofNat k8) &&& 31)) &&& (1 : Int32)).toInt = 0 then (if ((c2_greatestAbove_a8 f x y k8).2).toInt < (f (198 + 4 * k8) 3).toInt then Int32.ofNat k8 else (c2_greatestAbove_a8 f x y k8).1) else (c2_greatestAbove_a8 f x y k8).1, if ((y >>> ((Int32.ofNat k8) &&& 31)) &&& (1 : Int32)).toInt = 0 then (if ((c2_greatestAbove_a8 f x y k8).2).toInt < (f (198 + 4 * k8) 3).toInt then f (198 + 4 * k8) 3 else (c2_greatestAbove_a8 f x y k8).2) else (c2_greatestAbove_a8 f x y k8).2)
noncomputable def c2_greatestAbove_v (f : t2_F) (x y : Int32) : Int32 := (c2_greatestAbove_a8 f x y ((f 181 5).toInt.toNat)).1
theorem c2_greatestAbove_q {L : Nat} {xs : Nat → Int32} {f : t2_F} {l : t2_L} {Q : Option fl_V → fl_M → Prop} {x y : Int32} (hc : 0 ≤ (f 181 5).toInt ∧ (f 181 5).toInt ≤ 16) (k : Q (some (.inl (c2_greatestAbove_v f x y))) (f, l)) : fl_Tq (pw_P L xs) 64 0 (fl_args (am_mxl (pw_P L xs) 64) [.inr (.inr (.inl (49, 181))), .inl x, .inl y]) [] (f, l) Q := by
  refine fl_Tq.cI (c := (-1 : Int32)) rfl (by decide +kernel) (fl_bo rfl) ?_
  refine fl_Tq.stp (pc' := 2) (lv' := [some (.inr (.inr (.inl (49, 181)))), some (.inl x), some (.inl y), some (.inl (-1 : Int32)), none, none]) (st' := []) (m' := (f, l)) rfl rfl (fl_bo rfl) rfl ?_
  refine fl_Tq.stp (pc' := 3) (lv' := [some (.inr (.inr (.inl (49, 181)))), some (.inl x), some (.inl y), some (.inl (-1 : Int32)), none, none]) (st' := [.inl x]) (m' := (f, l)) rfl rfl (fl_bo rfl) rfl ?_
  refine fl_Tq.stp (pc' := 5) (lv' := [some (.inr (.inr (.inl (49, 181)))), some (.inl x), some (.inl y), some (.inl (-1 : Int32)), some (.inl x), none]) (st' := []) (m' := (f, l)) rfl rfl (fl_bo rfl) rfl ?_
  refine fl_Tq.cI (c := (0 : Int32)) rfl (by decide +kernel) (fl_bo rfl) ?_
  refine fl_Tq.stp (pc' := 8) (lv' := [some (.inr (.inr (.inl (49, 181)))), some (.inl x), some (.inl y), some (.inl (-1 : Int32)), some (.inl x), some (.inl (0 : Int32))]) (st' := []) (m' := (f, l)) rfl rfl (fl_bo rfl) rfl ?_
  have hs8 : ∀ k8 : Nat, k8 < (f 181 5).toInt.toNat → fl_Tq (pw_P L xs) 64 8 [some (.inr (.inr (.inl (49, 181)))), some (.inl x), some (.inl y), some (.inl ((c2_greatestAbove_a8 f x y (k8 + 1)).1)), some (.inl ((c2_greatestAbove_a8 f x y (k8 + 1)).2)), some (.inl (Int32.ofNat (k8 + 1)))] [] (f, l) Q → fl_Tq (pw_P L xs) 64 8 [some (.inr (.inr (.inl (49, 181)))), some (.inl x), some (.inl y), some (.inl ((c2_greatestAbove_a8 f x y k8).1)), some (.inl ((c2_greatestAbove_a8 f x y k8).2)), some (.inl (Int32.ofNat k8))] [] (f, l) Q := by
    intro k8 hk8 hS
    refine fl_Tq.stp (pc' := 10) (lv' := [some (.inr (.inr (.inl (49, 181)))), some (.inl x), some (.inl y), some (.inl ((c2_greatestAbove_a8 f x y k8).1)), some (.inl ((c2_greatestAbove_a8 f x y k8).2)), some (.inl (Int32.ofNat k8))]) (st' := [.inl (Int32.ofNat k8)]) (m' := (f, l)) rfl rfl (fl_bo rfl) rfl ?_
    refine fl_Tq.stp (pc' := 11) (lv' := [some (.inr (.inr (.inl (49, 181)))), some (.inl x), some (.inl y), some (.inl ((c2_greatestAbove_a8 f x y k8).1)), some (.inl ((c2_greatestAbove_a8 f x y k8).2)), some (.inl (Int32.ofNat k8))]) (st' := [.inr (.inr (.inl (49, 181))), .inl (Int32.ofNat k8)]) (m' := (f, l)) rfl rfl (fl_bo rfl) rfl ?_
    refine fl_Tq.gfV (k := 5) (v := f 181 5) rfl (fl_bo rfl) rfl rfl ?_
    refine fl_Tq.jf rfl (fl_bo rfl) (c2_ge_f (t2_lk hk8 (t2_nn hc.1))) rfl ?_
    refine fl_Tq.stp (pc' := 18) (lv' := [some (.inr (.inr (.inl (49, 181)))), some (.inl x), some (.inl y), some (.inl ((c2_greatestAbove_a8 f x y k8).1)), some (.inl ((c2_greatestAbove_a8 f x y k8).2)), some (.inl (Int32.ofNat k8))]) (st' := [.inl y]) (m' := (f, l)) rfl rfl (fl_bo rfl) rfl ?_
    refine fl_Tq.stp (pc' := 20) (lv' := [some (.inr (.inr (.inl (49, 181)))), some (.inl x), some (.inl y), some (.inl ((c2_greatestAbove_a8 f x y k8).1)), some (.inl ((c2_greatestAbove_a8 f x y k8).2)), some (.inl (Int32.ofNat k8))]) (st' := [.inl (Int32.ofNat k8), .inl y]) (m' := (f, l)) rfl rfl (fl_bo rfl) rfl ?_
    refine fl_Tq.stp (pc' := 21) (lv' := [some (.inr (.inr (.inl (49, 181)))), some (.inl x), some (.inl y), some (.inl ((c2_greatestAbove_a8 f x y k8).1)), some (.inl ((c2_greatestAbove_a8 f x y k8).2)), some (.inl (Int32.ofNat k8))]) (st' := [.inl (y >>> ((Int32.ofNat k8) &&& 31))]) (m' := (f, l)) rfl rfl (fl_bo rfl) rfl ?_
    refine fl_Tq.cI (c := (1 : Int32)) rfl (by decide +kernel) (fl_bo rfl) ?_
    refine fl_Tq.stp (pc' := 23) (lv' := [some (.inr (.inr (.inl (49, 181)))), some (.inl x), some (.inl y), some (.inl ((c2_greatestAbove_a8 f x y k8).1)), some (.inl ((c2_greatestAbove_a8 f x y k8).2)), some (.inl (Int32.ofNat k8))]) (st' := [.inl ((y >>> ((Int32.ofNat k8) &&& 31)) &&& (1 : Int32))]) (m' := (f, l)) rfl rfl (fl_bo rfl) rfl ?_
    have hj59 : fl_Tq (pw_P L xs) 64 56 [some (.inr (.inr (.inl (49, 181)))), some (.inl x), some (.inl y), some (.inl (if ((y >>> ((Int32.ofNat k8) &&& 31)) &&& (1 : Int32)).toInt = 0 then (if ((c2_greatestAbove_a8 f x y k8).2).toInt < (f (198 + 4 * k8) 3).toInt then Int32.ofNat k8 else (c2_greatestAbove_a8 f x y k8).1) else (c2_greatestAbove_a8 f x y k8).1)), some (.inl (if ((y >>> ((Int32.ofNat k8) &&& 31)) &&& (1 : Int32)).toInt = 0 then (if ((c2_greatestAbove_a8 f x y k8).2).toInt < (f (198 + 4 * k8) 3).toInt then f (198 + 4 * k8) 3 else (c2_greatestAbove_a8 f x y k8).2) else (c2_greatestAbove_a8 f x y k8).2)), some (.inl (Int32.ofNat k8))] [] (f, l) Q → fl_Tq (pw_P L xs) 64 23 [some (.inr (.inr (.inl (49, 181)))), some (.inl x), some (.inl y), some (.inl ((c2_greatestAbove_a8 f x y k8).1)), some (.inl ((c2_greatestAbove_a8 f x y k8).2)), some (.inl (Int32.ofNat k8))] [.inl ((y >>> ((Int32.ofNat k8) &&& 31)) &&& (1 : Int32))] (f, l) Q := by
      intro hJ
      by_cases h1 : ((y >>> ((Int32.ofNat k8) &&& 31)) &&& (1 : Int32)).toInt = 0
      · refine fl_Tq.zf rfl (fl_bo rfl) (c1_ne_f h1) rfl ?_
        refine fl_Tq.stp (pc' := 27) (lv' := [some (.inr (.inr (.inl (49, 181)))), some (.inl x), some (.inl y), some (.inl ((c2_greatestAbove_a8 f x y k8).1)), some (.inl ((c2_greatestAbove_a8 f x y k8).2)), some (.inl (Int32.ofNat k8))]) (st' := [.inr (.inr (.inl (49, 181)))]) (m' := (f, l)) rfl rfl (fl_bo rfl) rfl ?_
        refine fl_Tq.stp (pc' := 30) (lv' := [some (.inr (.inr (.inl (49, 181)))), some (.inl x), some (.inl y), some (.inl ((c2_greatestAbove_a8 f x y k8).1)), some (.inl ((c2_greatestAbove_a8 f x y k8).2)), some (.inl (Int32.ofNat k8))]) (st' := [.inr (.inr (.inl (50, 182)))]) (m' := (f, l)) rfl rfl (fl_bo rfl) rfl ?_
        refine fl_Tq.stp (pc' := 32) (lv' := [some (.inr (.inr (.inl (49, 181)))), some (.inl x), some (.inl y), some (.inl ((c2_greatestAbove_a8 f x y k8).1)), some (.inl ((c2_greatestAbove_a8 f x y k8).2)), some (.inl (Int32.ofNat k8))]) (st' := [.inl (Int32.ofNat k8), .inr (.inr (.inl (50, 182)))]) (m' := (f, l)) rfl rfl (fl_bo rfl) rfl ?_
        refine fl_Tq.qld (p := 182) (τ := 50) (n := 16) (t := 66) (b := 16) (d := 3) (k := k8) rfl (fl_bo rfl) rfl (at_ofN (by omega)) (by omega) ?_
        show fl_Tq _ 64 33 [some (.inr (.inr (.inl (49, 181)))), some (.inl x), some (.inl y), some (.inl ((c2_greatestAbove_a8 f x y k8).1)), some (.inl ((c2_greatestAbove_a8 f x y k8).2)), some (.inl (Int32.ofNat k8))] [.inr (.inr (.inl (66, 198 + 4 * k8)))] (f, l) _
        refine fl_Tq.gfV (k := 3) (v := f (198 + 4 * k8) 3) rfl (fl_oks_ok ⟨(t2_kc2 (by omega)), True.intro⟩) rfl rfl ?_
        refine fl_Tq.stp (pc' := 38) (lv' := [some (.inr (.inr (.inl (49, 181)))), some (.inl x), some (.inl y), some (.inl ((c2_greatestAbove_a8 f x y k8).1)), some (.inl ((c2_greatestAbove_a8 f x y k8).2)), some (.inl (Int32.ofNat k8))]) (st' := [.inl ((c2_greatestAbove_a8 f x y k8).2), .inl (f (198 + 4 * k8) 3)]) (m' := (f, l)) rfl rfl (fl_bo rfl) rfl ?_
        by_cases h2 : ((c2_greatestAbove_a8 f x y k8).2).toInt < (f (198 + 4 * k8) 3).toInt
        · refine fl_Tq.jf rfl (fl_bo rfl) (c2_le_f h2) rfl ?_
          refine fl_Tq.stp (pc' := 43) (lv' := [some (.inr (.inr (.inl (49, 181)))), some (.inl x), some (.inl y), some (.inl ((c2_greatestAbove_a8 f x y k8).1)), some (.inl ((c2_greatestAbove_a8 f x y k8).2)), some (.inl (Int32.ofNat k8))]) (st' := [.inl (Int32.ofNat k8)]) (m' := (f, l)) rfl rfl (fl_bo rfl) rfl ?_
          refine fl_Tq.stp (pc' := 44) (lv' := [some (.inr (.inr (.inl (49, 181)))), some (.inl x), some (.inl y), some (.inl (Int32.ofNat k8)), some (.inl ((c2_greatestAbove_a8 f x y k8).2)), some (.inl (Int32.ofNat k8))]) (st' := []) (m' := (f, l)) rfl rfl (fl_bo rfl) rfl ?_
          refine fl_Tq.stp (pc' := 45) (lv' := [some (.inr (.inr (.inl (49, 181)))), some (.inl x), some (.inl y), some (.inl (Int32.ofNat k8)), some (.inl ((c2_greatestAbove_a8 f x y k8).2)), some (.inl (Int32.ofNat k8))]) (st' := [.inr (.inr (.inl (49, 181)))]) (m' := (f, l)) rfl rfl (fl_bo rfl) rfl ?_
          refine fl_Tq.stp (pc' := 48) (lv' := [some (.inr (.inr (.inl (49, 181)))), some (.inl x), some (.inl y), some (.inl (Int32.ofNat k8)), some (.inl ((c2_greatestAbove_a8 f x y k8).2)), some (.inl (Int32.ofNat k8))]) (st' := [.inr (.inr (.inl (50, 182)))]) (m' := (f, l)) rfl rfl (fl_bo rfl) rfl ?_
          refine fl_Tq.stp (pc' := 50) (lv' := [some (.inr (.inr (.inl (49, 181)))), some (.inl x), some (.inl y), some (.inl (Int32.ofNat k8)), some (.inl ((c2_greatestAbove_a8 f x y k8).2)), some (.inl (Int32.ofNat k8))]) (st' := [.inl (Int32.ofNat k8), .inr (.inr (.inl (50, 182)))]) (m' := (f, l)) rfl rfl (fl_bo rfl) rfl ?_
          refine fl_Tq.qld (p := 182) (τ := 50) (n := 16) (t := 66) (b := 16) (d := 3) (k := k8) rfl (fl_bo rfl) rfl (at_ofN (by omega)) (by omega) ?_
          show fl_Tq _ 64 51 [some (.inr (.inr (.inl (49, 181)))), some (.inl x), some (.inl y), some (.inl (Int32.ofNat k8)), some (.inl ((c2_greatestAbove_a8 f x y k8).2)), some (.inl (Int32.ofNat k8))] [.inr (.inr (.inl (66, 198 + 4 * k8)))] (f, l) _
          refine fl_Tq.gfV (k := 3) (v := f (198 + 4 * k8) 3) rfl (fl_oks_ok ⟨(t2_kc2 (by omega)), True.intro⟩) rfl rfl ?_
          refine fl_Tq.stp (pc' := 56) (lv' := [some (.inr (.inr (.inl (49, 181)))), some (.inl x), some (.inl y), some (.inl (Int32.ofNat k8)), some (.inl (f (198 + 4 * k8) 3)), some (.inl (Int32.ofNat k8))]) (st' := []) (m' := (f, l)) rfl rfl (fl_bo rfl) rfl ?_
          have e0 : (if ((y >>> ((Int32.ofNat k8) &&& 31)) &&& (1 : Int32)).toInt = 0 then (if ((c2_greatestAbove_a8 f x y k8).2).toInt < (f (198 + 4 * k8) 3).toInt then Int32.ofNat k8 else (c2_greatestAbove_a8 f x y k8).1) else (c2_greatestAbove_a8 f x y k8).1) = Int32.ofNat k8 := by simp only [if_pos h1, if_pos h2]
          have e1 : (if ((y >>> ((Int32.ofNat k8) &&& 31)) &&& (1 : Int32)).toInt = 0 then (if ((c2_greatestAbove_a8 f x y k8).2).toInt < (f (198 + 4 * k8) 3).toInt then f (198 + 4 * k8) 3 else (c2_greatestAbove_a8 f x y k8).2) else (c2_greatestAbove_a8 f x y k8).2) = f (198 + 4 * k8) 3 := by simp only [if_pos h1, if_pos h2]
          rw [e0, e1] at hJ
          exact hJ
        · refine fl_Tq.jt rfl (fl_bo rfl) (c2_le_t h2) rfl ?_
          have e0 : (if ((y >>> ((Int32.ofNat k8) &&& 31)) &&& (1 : Int32)).toInt = 0 then (if ((c2_greatestAbove_a8 f x y k8).2).toInt < (f (198 + 4 * k8) 3).toInt then Int32.ofNat k8 else (c2_greatestAbove_a8 f x y k8).1) else (c2_greatestAbove_a8 f x y k8).1) = (c2_greatestAbove_a8 f x y k8).1 := by simp only [if_pos h1, if_neg h2]
          have e1 : (if ((y >>> ((Int32.ofNat k8) &&& 31)) &&& (1 : Int32)).toInt = 0 then (if ((c2_greatestAbove_a8 f x y k8).2).toInt < (f (198 + 4 * k8) 3).toInt then f (198 + 4 * k8) 3 else (c2_greatestAbove_a8 f x y k8).2) else (c2_greatestAbove_a8 f x y k8).2) = (c2_greatestAbove_a8 f x y k8).2 := by simp only [if_pos h1, if_neg h2]
          rw [e0, e1] at hJ
          exact hJ
      · refine fl_Tq.zt rfl (fl_bo rfl) (c1_ne_t h1) rfl ?_
        have e0 : (if ((y >>> ((Int32.ofNat k8) &&& 31)) &&& (1 : Int32)).toInt = 0 then (if ((c2_greatestAbove_a8 f x y k8).2).toInt < (f (198 + 4 * k8) 3).toInt then Int32.ofNat k8 else (c2_greatestAbove_a8 f x y k8).1) else (c2_greatestAbove_a8 f x y k8).1) = (c2_greatestAbove_a8 f x y k8).1 := by simp only [if_neg h1]
        have e1 : (if ((y >>> ((Int32.ofNat k8) &&& 31)) &&& (1 : Int32)).toInt = 0 then (if ((c2_greatestAbove_a8 f x y k8).2).toInt < (f (198 + 4 * k8) 3).toInt then f (198 + 4 * k8) 3 else (c2_greatestAbove_a8 f x y k8).2) else (c2_greatestAbove_a8 f x y k8).2) = (c2_greatestAbove_a8 f x y k8).2 := by simp only [if_neg h1]
        rw [e0, e1] at hJ
        exact hJ
    refine hj59 ?_
    show fl_Tq _ 64 56 [some (.inr (.inr (.inl (49, 181)))), some (.inl x), some (.inl y), some (.inl (if ((y >>> ((Int32.ofNat k8) &&& 31)) &&& (1 : Int32)).toInt = 0 then (if ((c2_greatestAbove_a8 f x y k8).2).toInt < (f (198 + 4 * k8) 3).toInt then Int32.ofNat k8 else (c2_greatestAbove_a8 f x y k8).1) else (c2_greatestAbove_a8 f x y k8).1)), some (.inl (if ((y >>> ((Int32.ofNat k8) &&& 31)) &&& (1 : Int32)).toInt = 0 then (if ((c2_greatestAbove_a8 f x y k8).2).toInt < (f (198 + 4 * k8) 3).toInt then f (198 + 4 * k8) 3 else (c2_greatestAbove_a8 f x y k8).2) else (c2_greatestAbove_a8 f x y k8).2)), some (.inl (Int32.ofNat k8))] [] (f, l) _
    refine fl_Tq.stp (pc' := 59) (lv' := [some (.inr (.inr (.inl (49, 181)))), some (.inl x), some (.inl y), some (.inl (if ((y >>> ((Int32.ofNat k8) &&& 31)) &&& (1 : Int32)).toInt = 0 then (if ((c2_greatestAbove_a8 f x y k8).2).toInt < (f (198 + 4 * k8) 3).toInt then Int32.ofNat k8 else (c2_greatestAbove_a8 f x y k8).1) else (c2_greatestAbove_a8 f x y k8).1)), some (.inl (if ((y >>> ((Int32.ofNat k8) &&& 31)) &&& (1 : Int32)).toInt = 0 then (if ((c2_greatestAbove_a8 f x y k8).2).toInt < (f (198 + 4 * k8) 3).toInt then f (198 + 4 * k8) 3 else (c2_greatestAbove_a8 f x y k8).2) else (c2_greatestAbove_a8 f x y k8).2)), some (.inl ((Int32.ofNat k8) + (1 : Int32)))]) (st' := []) (m' := (f, l)) rfl rfl (fl_bo rfl) rfl ?_
    refine fl_Tq.stp (pc' := 8) (lv' := [some (.inr (.inr (.inl (49, 181)))), some (.inl x), some (.inl y), some (.inl (if ((y >>> ((Int32.ofNat k8) &&& 31)) &&& (1 : Int32)).toInt = 0 then (if ((c2_greatestAbove_a8 f x y k8).2).toInt < (f (198 + 4 * k8) 3).toInt then Int32.ofNat k8 else (c2_greatestAbove_a8 f x y k8).1) else (c2_greatestAbove_a8 f x y k8).1)), some (.inl (if ((y >>> ((Int32.ofNat k8) &&& 31)) &&& (1 : Int32)).toInt = 0 then (if ((c2_greatestAbove_a8 f x y k8).2).toInt < (f (198 + 4 * k8) 3).toInt then f (198 + 4 * k8) 3 else (c2_greatestAbove_a8 f x y k8).2) else (c2_greatestAbove_a8 f x y k8).2)), some (.inl ((Int32.ofNat k8) + (1 : Int32)))]) (st' := []) (m' := (f, l)) rfl rfl (fl_bo rfl) rfl ?_
    have ea : c2_greatestAbove_a8 f x y (k8 + 1) = (if ((y >>> ((Int32.ofNat k8) &&& 31)) &&& (1 : Int32)).toInt = 0 then (if ((c2_greatestAbove_a8 f x y k8).2).toInt < (f (198 + 4 * k8) 3).toInt then Int32.ofNat k8 else (c2_greatestAbove_a8 f x y k8).1) else (c2_greatestAbove_a8 f x y k8).1, if ((y >>> ((Int32.ofNat k8) &&& 31)) &&& (1 : Int32)).toInt = 0 then (if ((c2_greatestAbove_a8 f x y k8).2).toInt < (f (198 + 4 * k8) 3).toInt then f (198 + 4 * k8) 3 else (c2_greatestAbove_a8 f x y k8).2) else (c2_greatestAbove_a8 f x y k8).2) := by
      show ((if ((y >>> ((Int32.ofNat k8) &&& 31)) &&& (1 : Int32)).toInt = 0 then (if ((c2_greatestAbove_a8 f x y k8).2).toInt < (f (198 + 4 * k8) 3).toInt then Int32.ofNat k8 else (c2_greatestAbove_a8 f x y k8).1) else (c2_greatestAbove_a8 f x y k8).1, if ((y >>> ((Int32.ofNat k8) &&& 31)) &&& (1 : Int32)).toInt = 0 then (if ((c2_greatestAbove_a8 f x y k8).2).toInt < (f (198 + 4 * k8) 3).toInt then f (198 + 4 * k8) 3 else (c2_greatestAbove_a8 f x y k8).2) else (c2_greatestAbove_a8 f x y k8).2)) = _
      rfl
    rw [ea, ← t2_k1] at hS
    exact hS
  refine t2_for (S := fun k8 => fl_Tq (pw_P L xs) 64 8 [some (.inr (.inr (.inl (49, 181)))), some (.inl x), some (.inl y), some (.inl ((c2_greatestAbove_a8 f x y k8).1)), some (.inl ((c2_greatestAbove_a8 f x y k8).2)), some (.inl (Int32.ofNat k8))] [] (f, l) Q) hs8 ?_
  show fl_Tq (pw_P L xs) 64 8 [some (.inr (.inr (.inl (49, 181)))), some (.inl x), some (.inl y), some (.inl ((c2_greatestAbove_a8 f x y ((f 181 5).toInt.toNat)).1)), some (.inl ((c2_greatestAbove_a8 f x y ((f 181 5).toInt.toNat)).2)), some (.inl (Int32.ofNat ((f 181 5).toInt.toNat)))] [] (f, l) _
  refine fl_Tq.stp (pc' := 10) (lv' := [some (.inr (.inr (.inl (49, 181)))), some (.inl x), some (.inl y), some (.inl ((c2_greatestAbove_a8 f x y ((f 181 5).toInt.toNat)).1)), some (.inl ((c2_greatestAbove_a8 f x y ((f 181 5).toInt.toNat)).2)), some (.inl (Int32.ofNat ((f 181 5).toInt.toNat)))]) (st' := [.inl (Int32.ofNat ((f 181 5).toInt.toNat))]) (m' := (f, l)) rfl rfl (fl_bo rfl) rfl ?_
  refine fl_Tq.stp (pc' := 11) (lv' := [some (.inr (.inr (.inl (49, 181)))), some (.inl x), some (.inl y), some (.inl ((c2_greatestAbove_a8 f x y ((f 181 5).toInt.toNat)).1)), some (.inl ((c2_greatestAbove_a8 f x y ((f 181 5).toInt.toNat)).2)), some (.inl (Int32.ofNat ((f 181 5).toInt.toNat)))]) (st' := [.inr (.inr (.inl (49, 181))), .inl (Int32.ofNat ((f 181 5).toInt.toNat))]) (m' := (f, l)) rfl rfl (fl_bo rfl) rfl ?_
  refine fl_Tq.gfV (k := 5) (v := f 181 5) rfl (fl_bo rfl) rfl rfl ?_
  refine fl_Tq.jt rfl (fl_bo rfl) (c2_ge_t (t2_ln (t2_nn hc.1))) rfl ?_
  refine fl_Tq.stp (pc' := 63) (lv' := [some (.inr (.inr (.inl (49, 181)))), some (.inl x), some (.inl y), some (.inl ((c2_greatestAbove_a8 f x y ((f 181 5).toInt.toNat)).1)), some (.inl ((c2_greatestAbove_a8 f x y ((f 181 5).toInt.toNat)).2)), some (.inl (Int32.ofNat ((f 181 5).toInt.toNat)))]) (st' := [.inl ((c2_greatestAbove_a8 f x y ((f 181 5).toInt.toNat)).1)]) (m' := (f, l)) rfl rfl (fl_bo rfl) rfl ?_
  exact fl_Tq.ret rfl rfl rfl k
