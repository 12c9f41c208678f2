/-! 91.10.g6b.lean.txt -/
section
theorem c0_worstCell_b {f : t2_F} {x : Int32} (k : Nat) : k ≤ 16 → ((c0_worstCell_a8 f x k).1).toInt = -1 ∨ (0 ≤ ((c0_worstCell_a8 f x k).1).toInt ∧ ((c0_worstCell_a8 f x k).1).toInt < k) := by
  induction k with
  | zero =>
    intro _
    left
    show (-1 : Int32).toInt = -1
    decide +kernel
  | succ k ih =>
    intro hk
    have ih := ih (by omega)
    have e : (Int32.ofNat k).toInt = k := at_ofN (by omega)
    unfold c0_worstCell_a8
    dsimp only
    repeat' split
    all_goals omega
theorem c0_worstCell_vb {f : t2_F} {x : Int32} (hc : 0 ≤ (f 1 5).toInt ∧ (f 1 5).toInt ≤ 16) : (c0_worstCell_v f x).toInt = -1 ∨ (0 ≤ (c0_worstCell_v f x).toInt ∧ (c0_worstCell_v f x).toInt < (f 1 5).toInt) := by
  have := c0_worstCell_b (f := f) (x := x) (f 1 5).toInt.toNat (by omega)
  unfold c0_worstCell_v
  omega
noncomputable def c0_limitOf_j18_0 (f : t2_F) (x : Int32) : Int32 := if (c0_worstCell_v f x).toInt = (-1 : Int32).toInt then f 4 4 else t2_min_v (f 4 4) (c0_ownLimit_v f ((c0_worstCell_v f x).toInt.toNat) x)
noncomputable def c0_limitOf_v (f : t2_F) (x : Int32) : Int32 := c0_limitOf_j18_0 f x
theorem c0_limitOf_q {L : Nat} {xs : Nat → Int32} {f : t2_F} {l : t2_L} {Q : Option fl_V → fl_M → Prop} {x : Int32} (hc : 0 ≤ (f 1 5).toInt ∧ (f 1 5).toInt ≤ 16) (hz : 0 ≤ (f 3 6).toInt ∧ (f 3 6).toInt ≤ 6) (k : Q (some (.inl (c0_limitOf_v f x))) (f, l)) : fl_Tq (pw_P L xs) 50 0 (fl_args (am_mxl (pw_P L xs) 50) [.inr (.inr (.inl (1, 1))), .inl x]) [] (f, l) Q := by
  refine fl_Tq.stp (pc' := 1) (lv' := [some (.inr (.inr (.inl (1, 1)))), some (.inl x), none, none]) (st' := [.inr (.inr (.inl (1, 1)))]) (m' := (f, l)) rfl rfl (fl_bo rfl) rfl ?_
  refine fl_Tq.stp (pc' := 4) (lv' := [some (.inr (.inr (.inl (1, 1)))), some (.inl x), none, none]) (st' := [.inr (.inr (.inl (3, 3)))]) (m' := (f, l)) rfl rfl (fl_bo rfl) rfl ?_
  refine fl_Tq.stp (pc' := 7) (lv' := [some (.inr (.inr (.inl (1, 1)))), some (.inl x), none, none]) (st' := [.inr (.inr (.inl (4, 4)))]) (m' := (f, l)) rfl rfl (fl_bo rfl) rfl ?_
  refine fl_Tq.cI (c := (4 : Int32)) rfl (by decide +kernel) (fl_bo rfl) ?_
  refine fl_Tq.ldV (p := 4) (τ := 4) (n := 30) (z := (0, 0, 0)) (k := 4) (v := f 4 4) rfl (fl_bo rfl) rfl (by decide +kernel) (by decide) rfl ?_
  refine fl_Tq.stp (pc' := 10) (lv' := [some (.inr (.inr (.inl (1, 1)))), some (.inl x), some (.inl (f 4 4)), none]) (st' := []) (m' := (f, l)) rfl rfl (fl_bo rfl) rfl ?_
  refine fl_Tq.stp (pc' := 11) (lv' := [some (.inr (.inr (.inl (1, 1)))), some (.inl x), some (.inl (f 4 4)), none]) (st' := [.inr (.inr (.inl (1, 1)))]) (m' := (f, l)) rfl rfl (fl_bo rfl) rfl ?_
  refine fl_Tq.stp (pc' := 12) (lv' := [some (.inr (.inr (.inl (1, 1)))), some (.inl x), some (.inl (f 4 4)), none]) (st' := [.inl x, .inr (.inr (.inl (1, 1)))]) (m' := (f, l)) rfl rfl (fl_bo rfl) rfl ?_
  refine fl_Tq.cal rfl rfl (fl_bo rfl) rfl ?_
  refine c0_worstCell_q hc hz ?_
  show fl_Tq _ 50 15 [some (.inr (.inr (.inl (1, 1)))), some (.inl x), some (.inl (f 4 4)), none] [.inl (c0_worstCell_v f x)] (f, l) _
  refine fl_Tq.stp (pc' := 16) (lv' := [some (.inr (.inr (.inl (1, 1)))), some (.inl x), some (.inl (f 4 4)), some (.inl (c0_worstCell_v f x))]) (st' := []) (m' := (f, l)) rfl rfl (fl_bo rfl) rfl ?_
  refine fl_Tq.stp (pc' := 17) (lv' := [some (.inr (.inr (.inl (1, 1)))), some (.inl x), some (.inl (f 4 4)), some (.inl (c0_worstCell_v f x))]) (st' := [.inl (c0_worstCell_v f x)]) (m' := (f, l)) rfl rfl (fl_bo rfl) rfl ?_
  refine fl_Tq.cI (c := (-1 : Int32)) rfl (by decide +kernel) (fl_bo rfl) ?_
  have hj77 : fl_Tq (pw_P L xs) 50 43 [some (.inr (.inr (.inl (1, 1)))), some (.inl x), some (.inl (f 4 4)), some (.inl (c0_worstCell_v f x))] [.inl (c0_limitOf_j18_0 f x)] (f, l) Q → fl_Tq (pw_P L xs) 50 18 [some (.inr (.inr (.inl (1, 1)))), some (.inl x), some (.inl (f 4 4)), some (.inl (c0_worstCell_v f x))] [.inl (-1 : Int32), .inl (c0_worstCell_v f x)] (f, l) Q := by
    intro hJ
    by_cases h1 : (c0_worstCell_v f x).toInt = (-1 : Int32).toInt
    · refine fl_Tq.jf rfl (fl_bo rfl) (c2_ne_f h1) rfl ?_
      refine fl_Tq.stp (pc' := 22) (lv' := [some (.inr (.inr (.inl (1, 1)))), some (.inl x), some (.inl (f 4 4)), some (.inl (c0_worstCell_v f x))]) (st' := [.inl (f 4 4)]) (m' := (f, l)) rfl rfl (fl_bo rfl) rfl ?_
      refine fl_Tq.stp (pc' := 43) (lv' := [some (.inr (.inr (.inl (1, 1)))), some (.inl x), some (.inl (f 4 4)), some (.inl (c0_worstCell_v f x))]) (st' := [.inl (f 4 4)]) (m' := (f, l)) rfl rfl (fl_bo rfl) rfl ?_
      have e0 : (c0_limitOf_j18_0 f x) = f 4 4 := by simp only [c0_limitOf_j18_0, if_pos h1]
      rw [e0] at hJ
      exact hJ
    · refine fl_Tq.jt rfl (fl_bo rfl) (c2_ne_t h1) rfl ?_
      refine fl_Tq.stp (pc' := 26) (lv' := [some (.inr (.inr (.inl (1, 1)))), some (.inl x), some (.inl (f 4 4)), some (.inl (c0_worstCell_v f x))]) (st' := [.inl (f 4 4)]) (m' := (f, l)) rfl rfl (fl_bo rfl) rfl ?_
      refine fl_Tq.stp (pc' := 27) (lv' := [some (.inr (.inr (.inl (1, 1)))), some (.inl x), some (.inl (f 4 4)), some (.inl (c0_worstCell_v f x))]) (st' := [.inr (.inr (.inl (1, 1))), .inl (f 4 4)]) (m' := (f, l)) rfl rfl (fl_bo rfl) rfl ?_
      refine fl_Tq.stp (pc' := 30) (lv' := [some (.inr (.inr (.inl (1, 1)))), some (.inl x), some (.inl (f 4 4)), some (.inl (c0_worstCell_v f x))]) (st' := [.inr (.inr (.inl (2, 2))), .inl (f 4 4)]) (m' := (f, l)) rfl rfl (fl_bo rfl) rfl ?_
      refine fl_Tq.stp (pc' := 31) (lv' := [some (.inr (.inr (.inl (1, 1)))), some (.inl x), some (.inl (f 4 4)), some (.inl (c0_worstCell_v f x))]) (st' := [.inl (c0_worstCell_v f x), .inr (.inr (.inl (2, 2))), .inl (f 4 4)]) (m' := (f, l)) rfl rfl (fl_bo rfl) rfl ?_
      refine fl_Tq.qld (p := 2) (τ := 2) (n := 16) (t := 18) (b := 16) (d := 3) (k := (c0_worstCell_v f x).toInt.toNat) rfl (fl_bo rfl) rfl (t2_nn (by have e1 : (-1 : Int32).toInt = -1 := (by decide +kernel); have := c0_worstCell_vb (f := f) (x := x) hc; omega)) (by have e1 : (-1 : Int32).toInt = -1 := (by decide +kernel); have h16 := hc; have := c0_worstCell_vb (f := f) (x := x) hc; omega) ?_
      show fl_Tq _ 50 32 [some (.inr (.inr (.inl (1, 1)))), some (.inl x), some (.inl (f 4 4)), some (.inl (c0_worstCell_v f x))] [.inr (.inr (.inl (18, 18 + 4 * ((c0_worstCell_v f x).toInt.toNat)))), .inl (f 4 4)] (f, l) _
      refine fl_Tq.stp (pc' := 33) (lv' := [some (.inr (.inr (.inl (1, 1)))), some (.inl x), some (.inl (f 4 4)), some (.inl (c0_worstCell_v f x))]) (st' := [.inl x, .inr (.inr (.inl (18, 18 + 4 * ((c0_worstCell_v f x).toInt.toNat)))), .inl (f 4 4)]) (m' := (f, l)) rfl rfl (fl_oks_ok ⟨(t2_kc0 (by have e1 : (-1 : Int32).toInt = -1 := (by decide +kernel); have h16 := hc; have := c0_worstCell_vb (f := f) (x := x) hc; omega)), True.intro, True.intro⟩) rfl ?_
      refine fl_Tq.stp (pc' := 34) (lv' := [some (.inr (.inr (.inl (1, 1)))), some (.inl x), some (.inl (f 4 4)), some (.inl (c0_worstCell_v f x))]) (st' := [.inr (.inr (.inl (1, 1))), .inl x, .inr (.inr (.inl (18, 18 + 4 * ((c0_worstCell_v f x).toInt.toNat)))), .inl (f 4 4)]) (m' := (f, l)) rfl rfl (fl_oks_ok ⟨True.intro, (t2_kc0 (by have e1 : (-1 : Int32).toInt = -1 := (by decide +kernel); have h16 := hc; have := c0_worstCell_vb (f := f) (x := x) hc; omega)), True.intro, True.intro⟩) rfl ?_
      refine fl_Tq.stp (pc' := 37) (lv' := [some (.inr (.inr (.inl (1, 1)))), some (.inl x), some (.inl (f 4 4)), some (.inl (c0_worstCell_v f x))]) (st' := [.inr (.inr (.inl (3, 3))), .inl x, .inr (.inr (.inl (18, 18 + 4 * ((c0_worstCell_v f x).toInt.toNat)))), .inl (f 4 4)]) (m' := (f, l)) rfl rfl (fl_oks_ok ⟨fl_okp (by decide +kernel) (by decide), True.intro, (t2_kc0 (by have e1 : (-1 : Int32).toInt = -1 := (by decide +kernel); have h16 := hc; have := c0_worstCell_vb (f := f) (x := x) hc; omega)), True.intro, True.intro⟩) rfl ?_
      refine fl_Tq.cal rfl rfl (fl_oks_ok ⟨fl_okp (by decide +kernel) (by decide), True.intro, (t2_kc0 (by have e1 : (-1 : Int32).toInt = -1 := (by decide +kernel); have h16 := hc; have := c0_worstCell_vb (f := f) (x := x) hc; omega)), True.intro, True.intro⟩) rfl ?_
      refine c0_ownLimit_q (by have e1 : (-1 : Int32).toInt = -1 := (by decide +kernel); have hq := hc; have := c0_worstCell_vb (f := f) (x := x) hc; omega) hz ?_
      show fl_Tq _ 50 40 [some (.inr (.inr (.inl (1, 1)))), some (.inl x), some (.inl (f 4 4)), some (.inl (c0_worstCell_v f x))] [.inl (c0_ownLimit_v f ((c0_worstCell_v f x).toInt.toNat) x), .inl (f 4 4)] (f, l) _
      refine fl_Tq.cal rfl rfl (fl_bo rfl) rfl ?_
      refine t2_min_q  ?_
      show fl_Tq _ 50 43 [some (.inr (.inr (.inl (1, 1)))), some (.inl x), some (.inl (f 4 4)), some (.inl (c0_worstCell_v f x))] [.inl (t2_min_v (f 4 4) (c0_ownLimit_v f ((c0_worstCell_v f x).toInt.toNat) x))] (f, l) _
      have e0 : (c0_limitOf_j18_0 f x) = t2_min_v (f 4 4) (c0_ownLimit_v f ((c0_worstCell_v f x).toInt.toNat) x) := by simp only [c0_limitOf_j18_0, if_neg h1]
      rw [e0] at hJ
      exact hJ
  refine hj77 ?_
  show fl_Tq _ 50 43 [some (.inr (.inr (.inl (1, 1)))), some (.inl x), some (.inl (f 4 4)), some (.inl (c0_worstCell_v f x))] [.inl (c0_limitOf_j18_0 f x)] (f, l) _
  exact fl_Tq.ret rfl rfl rfl k
noncomputable def c0_countHeldBack_j8_0 (f : t2_F) (x : Int32) : Int32 := if (c0_worstCell_v f x).toInt = (-1 : Int32).toInt then f (18 + 4 * ((c0_worstCell_v f x).toInt.toNat)) 18 else (if (f 4 4).toInt < (c0_ownLimit_v f ((c0_worstCell_v f x).toInt.toNat) x).toInt then f (18 + 4 * ((c0_worstCell_v f x).toInt.toNat)) 18 else (f (18 + 4 * ((c0_worstCell_v f x).toInt.toNat)) 18) + (1 : Int32))
noncomputable def c0_countHeldBack_m (f : t2_F) (x : Int32) : t2_F := fl_row f (18 + 4 * ((c0_worstCell_v f x).toInt.toNat)) (upd (f (18 + 4 * ((c0_worstCell_v f x).toInt.toNat))) 18 (c0_countHeldBack_j8_0 f x))
theorem c0_countHeldBack_fr {f : t2_F} {x : Int32} {p : Nat} (e0 : p ≠ 18 + 4 * ((c0_worstCell_v f x).toInt.toNat)) : c0_countHeldBack_m f x p = f p := by
  unfold c0_countHeldBack_m
  repeat' split
  all_goals first | rfl | simp only [fl_row_ne e0]
theorem c0_countHeldBack_q {L : Nat} {xs : Nat → Int32} {f : t2_F} {l : t2_L} {Q : Option fl_V → fl_M → Prop} {x : Int32} (hc : 0 ≤ (f 1 5).toInt ∧ (f 1 5).toInt ≤ 16) (hz : 0 ≤ (f 3 6).toInt ∧ (f 3 6).toInt ≤ 6) (k : Q none (c0_countHeldBack_m f x, l)) : fl_Tq (pw_P L xs) 60 0 (fl_args (am_mxl (pw_P L xs) 60) [.inr (.inr (.inl (1, 1))), .inl x]) [] (f, l) Q := by
  refine fl_Tq.stp (pc' := 1) (lv' := [some (.inr (.inr (.inl (1, 1)))), some (.inl x), none]) (st' := [.inr (.inr (.inl (1, 1)))]) (m' := (f, l)) rfl rfl (fl_bo rfl) rfl ?_
  refine fl_Tq.stp (pc' := 2) (lv' := [some (.inr (.inr (.inl (1, 1)))), some (.inl x), none]) (st' := [.inl x, .inr (.inr (.inl (1, 1)))]) (m' := (f, l)) rfl rfl (fl_bo rfl) rfl ?_
  refine fl_Tq.cal rfl rfl (fl_bo rfl) rfl ?_
  refine c0_worstCell_q hc hz ?_
  show fl_Tq _ 60 5 [some (.inr (.inr (.inl (1, 1)))), some (.inl x), none] [.inl (c0_worstCell_v f x)] (f, l) _
  refine fl_Tq.stp (pc' := 6) (lv' := [some (.inr (.inr (.inl (1, 1)))), some (.inl x), some (.inl (c0_worstCell_v f x))]) (st' := []) (m' := (f, l)) rfl rfl (fl_bo rfl) rfl ?_
  refine fl_Tq.stp (pc' := 7) (lv' := [some (.inr (.inr (.inl (1, 1)))), some (.inl x), some (.inl (c0_worstCell_v f x))]) (st' := [.inl (c0_worstCell_v f x)]) (m' := (f, l)) rfl rfl (fl_bo rfl) rfl ?_
  refine fl_Tq.cI (c := (-1 : Int32)) rfl (by decide +kernel) (fl_bo rfl) ?_
  have hj78 : fl_Tq (pw_P L xs) 60 52 [some (.inr (.inr (.inl (1, 1)))), some (.inl x), some (.inl (c0_worstCell_v f x))] [] (fl_row f (18 + 4 * ((c0_worstCell_v f x).toInt.toNat)) (upd (f (18 + 4 * ((c0_worstCell_v f x).toInt.toNat))) 18 (c0_countHeldBack_j8_0 f x)), l) Q → fl_Tq (pw_P L xs) 60 8 [some (.inr (.inr (.inl (1, 1)))), some (.inl x), some (.inl (c0_worstCell_v f x))] [.inl (-1 : Int32), .inl (c0_worstCell_v f x)] (f, l) Q := by
    intro hJ
    by_cases h1 : (c0_worstCell_v f x).toInt = (-1 : Int32).toInt
    · refine fl_Tq.jt rfl (fl_bo rfl) (c2_eq_t h1) rfl ?_
      have e0 : (fl_row f (18 + 4 * ((c0_worstCell_v f x).toInt.toNat)) (upd (f (18 + 4 * ((c0_worstCell_v f x).toInt.toNat))) 18 (c0_countHeldBack_j8_0 f x))) = f := by
        simp only [c0_countHeldBack_j8_0, if_pos h1]
        funext q j
        simp only [fl_row, upd]
        repeat' split
        all_goals first | rfl | simp_all
      rw [e0] at hJ
      exact hJ
    · refine fl_Tq.jf rfl (fl_bo rfl) (c2_eq_f h1) rfl ?_
      refine fl_Tq.stp (pc' := 12) (lv' := [some (.inr (.inr (.inl (1, 1)))), some (.inl x), some (.inl (c0_worstCell_v f x))]) (st' := [.inr (.inr (.inl (1, 1)))]) (m' := (f, l)) rfl rfl (fl_bo rfl) rfl ?_
      refine fl_Tq.stp (pc' := 15) (lv' := [some (.inr (.inr (.inl (1, 1)))), some (.inl x), some (.inl (c0_worstCell_v f x))]) (st' := [.inr (.inr (.inl (2, 2)))]) (m' := (f, l)) rfl rfl (fl_bo rfl) rfl ?_
      refine fl_Tq.stp (pc' := 16) (lv' := [some (.inr (.inr (.inl (1, 1)))), some (.inl x), some (.inl (c0_worstCell_v f x))]) (st' := [.inl (c0_worstCell_v f x), .inr (.inr (.inl (2, 2)))]) (m' := (f, l)) rfl rfl (fl_bo rfl) rfl ?_
      refine fl_Tq.qld (p := 2) (τ := 2) (n := 16) (t := 18) (b := 16) (d := 3) (k := (c0_worstCell_v f x).toInt.toNat) rfl (fl_bo rfl) rfl (t2_nn (by have e1 : (-1 : Int32).toInt = -1 := (by decide +kernel); have := c0_worstCell_vb (f := f) (x := x) hc; omega)) (by have e1 : (-1 : Int32).toInt = -1 := (by decide +kernel); have h16 := hc; have := c0_worstCell_vb (f := f) (x := x) hc; omega) ?_
      show fl_Tq _ 60 17 [some (.inr (.inr (.inl (1, 1)))), some (.inl x), some (.inl (c0_worstCell_v f x))] [.inr (.inr (.inl (18, 18 + 4 * ((c0_worstCell_v f x).toInt.toNat))))] (f, l) _
      refine fl_Tq.stp (pc' := 18) (lv' := [some (.inr (.inr (.inl (1, 1)))), some (.inl x), some (.inl (c0_worstCell_v f x))]) (st' := [.inl x, .inr (.inr (.inl (18, 18 + 4 * ((c0_worstCell_v f x).toInt.toNat))))]) (m' := (f, l)) rfl rfl (fl_oks_ok ⟨(t2_kc0 (by have e1 : (-1 : Int32).toInt = -1 := (by decide +kernel); have h16 := hc; have := c0_worstCell_vb (f := f) (x := x) hc; omega)), True.intro⟩) rfl ?_
      refine fl_Tq.stp (pc' := 19) (lv' := [some (.inr (.inr (.inl (1, 1)))), some (.inl x), some (.inl (c0_worstCell_v f x))]) (st' := [.inr (.inr (.inl (1, 1))), .inl x, .inr (.inr (.inl (18, 18 + 4 * ((c0_worstCell_v f x).toInt.toNat))))]) (m' := (f, l)) rfl rfl (fl_oks_ok ⟨True.intro, (t2_kc0 (by have e1 : (-1 : Int32).toInt = -1 := (by decide +kernel); have h16 := hc; have := c0_worstCell_vb (f := f) (x := x) hc; omega)), True.intro⟩) rfl ?_
      refine fl_Tq.stp (pc' := 22) (lv' := [some (.inr (.inr (.inl (1, 1)))), some (.inl x), some (.inl (c0_worstCell_v f x))]) (st' := [.inr (.inr (.inl (3, 3))), .inl x, .inr (.inr (.inl (18, 18 + 4 * ((c0_worstCell_v f x).toInt.toNat))))]) (m' := (f, l)) rfl rfl (fl_oks_ok ⟨fl_okp (by decide +kernel) (by decide), True.intro, (t2_kc0 (by have e1 : (-1 : Int32).toInt = -1 := (by decide +kernel); have h16 := hc; have := c0_worstCell_vb (f := f) (x := x) hc; omega)), True.intro⟩) rfl ?_
      refine fl_Tq.cal rfl rfl (fl_oks_ok ⟨fl_okp (by decide +kernel) (by decide), True.intro, (t2_kc0 (by have e1 : (-1 : Int32).toInt = -1 := (by decide +kernel); have h16 := hc; have := c0_worstCell_vb (f := f) (x := x) hc; omega)), True.intro⟩) rfl ?_
      refine c0_ownLimit_q (by have e1 : (-1 : Int32).toInt = -1 := (by decide +kernel); have hq := hc; have := c0_worstCell_vb (f := f) (x := x) hc; omega) hz ?_
      show fl_Tq _ 60 25 [some (.inr (.inr (.inl (1, 1)))), some (.inl x), some (.inl (c0_worstCell_v f x))] [.inl (c0_ownLimit_v f ((c0_worstCell_v f x).toInt.toNat) x)] (f, l) _
      refine fl_Tq.stp (pc' := 26) (lv' := [some (.inr (.inr (.inl (1, 1)))), some (.inl x), some (.inl (c0_worstCell_v f x))]) (st' := [.inr (.inr (.inl (1, 1))), .inl (c0_ownLimit_v f ((c0_worstCell_v f x).toInt.toNat) x)]) (m' := (f, l)) rfl rfl (fl_bo rfl) rfl ?_
      refine fl_Tq.stp (pc' := 29) (lv' := [some (.inr (.inr (.inl (1, 1)))), some (.inl x), some (.inl (c0_worstCell_v f x))]) (st' := [.inr (.inr (.inl (3, 3))), .inl (c0_ownLimit_v f ((c0_worstCell_v f x).toInt.toNat) x)]) (m' := (f, l)) rfl rfl (fl_bo rfl) rfl ?_
      refine fl_Tq.stp (pc' := 32) (lv' := [some (.inr (.inr (.inl (1, 1)))), some (.inl x), some (.inl (c0_worstCell_v f x))]) (st' := [.inr (.inr (.inl (4, 4))), .inl (c0_ownLimit_v f ((c0_worstCell_v f x).toInt.toNat) x)]) (m' := (f, l)) rfl rfl (fl_bo rfl) rfl ?_
      refine fl_Tq.cI (c := (4 : Int32)) rfl (by decide +kernel) (fl_bo rfl) ?_
      refine fl_Tq.ldV (p := 4) (τ := 4) (n := 30) (z := (0, 0, 0)) (k := 4) (v := f 4 4) rfl (fl_bo rfl) rfl (by decide +kernel) (by decide) rfl ?_
      by_cases h2 : (f 4 4).toInt < (c0_ownLimit_v f ((c0_worstCell_v f x).toInt.toNat) x).toInt
      · refine fl_Tq.jt rfl (fl_bo rfl) (c2_gt_t h2) rfl ?_
        have e0 : (fl_row f (18 + 4 * ((c0_worstCell_v f x).toInt.toNat)) (upd (f (18 + 4 * ((c0_worstCell_v f x).toInt.toNat))) 18 (c0_countHeldBack_j8_0 f x))) = f := by
          simp only [c0_countHeldBack_j8_0, if_neg h1, if_pos h2]
          funext q j
          simp only [fl_row, upd]
          repeat' split
          all_goals first | rfl | simp_all
        rw [e0] at hJ
        exact hJ
      · refine fl_Tq.jf rfl (fl_bo rfl) (c2_gt_f h2) rfl ?_
        refine fl_Tq.stp (pc' := 38) (lv' := [some (.inr (.inr (.inl (1, 1)))), some (.inl x), some (.inl (c0_worstCell_v f x))]) (st' := [.inr (.inr (.inl (1, 1)))]) (m' := (f, l)) rfl rfl (fl_bo rfl) rfl ?_
        refine fl_Tq.stp (pc' := 41) (lv' := [some (.inr (.inr (.inl (1, 1)))), some (.inl x), some (.inl (c0_worstCell_v f x))]) (st' := [.inr (.inr (.inl (2, 2)))]) (m' := (f, l)) rfl rfl (fl_bo rfl) rfl ?_
        refine fl_Tq.stp (pc' := 42) (lv' := [some (.inr (.inr (.inl (1, 1)))), some (.inl x), some (.inl (c0_worstCell_v f x))]) (st' := [.inl (c0_worstCell_v f x), .inr (.inr (.inl (2, 2)))]) (m' := (f, l)) rfl rfl (fl_bo rfl) rfl ?_
        refine fl_Tq.qld (p := 2) (τ := 2) (n := 16) (t := 18) (b := 16) (d := 3) (k := (c0_worstCell_v f x).toInt.toNat) rfl (fl_bo rfl) rfl (t2_nn (by have e1 : (-1 : Int32).toInt = -1 := (by decide +kernel); have := c0_worstCell_vb (f := f) (x := x) hc; omega)) (by have e1 : (-1 : Int32).toInt = -1 := (by decide +kernel); have h16 := hc; have := c0_worstCell_vb (f := f) (x := x) hc; omega) ?_
        show fl_Tq _ 60 43 [some (.inr (.inr (.inl (1, 1)))), some (.inl x), some (.inl (c0_worstCell_v f x))] [.inr (.inr (.inl (18, 18 + 4 * ((c0_worstCell_v f x).toInt.toNat))))] (f, l) _
        refine fl_Tq.stp (pc' := 44) (lv' := [some (.inr (.inr (.inl (1, 1)))), some (.inl x), some (.inl (c0_worstCell_v f x))]) (st' := [.inr (.inr (.inl (18, 18 + 4 * ((c0_worstCell_v f x).toInt.toNat)))), .inr (.inr (.inl (18, 18 + 4 * ((c0_worstCell_v f x).toInt.toNat))))]) (m' := (f, l)) rfl rfl (fl_oks_ok ⟨(t2_kc0 (by have e1 : (-1 : Int32).toInt = -1 := (by decide +kernel); have h16 := hc; have := c0_worstCell_vb (f := f) (x := x) hc; omega)), True.intro⟩) rfl ?_
        refine fl_Tq.gfV (k := 18) (v := f (18 + 4 * ((c0_worstCell_v f x).toInt.toNat)) 18) rfl (fl_oks_ok ⟨(t2_kc0 (by have e1 : (-1 : Int32).toInt = -1 := (by decide +kernel); have h16 := hc; have := c0_worstCell_vb (f := f) (x := x) hc; omega)), (t2_kc0 (by have e1 : (-1 : Int32).toInt = -1 := (by decide +kernel); have h16 := hc; have := c0_worstCell_vb (f := f) (x := x) hc; omega)), True.intro⟩) rfl rfl ?_
        refine fl_Tq.cI (c := (1 : Int32)) rfl (by decide +kernel) (fl_oks_ok ⟨True.intro, (t2_kc0 (by have e1 : (-1 : Int32).toInt = -1 := (by decide +kernel); have h16 := hc; have := c0_worstCell_vb (f := f) (x := x) hc; omega)), True.intro⟩) ?_
        refine fl_Tq.stp (pc' := 49) (lv' := [some (.inr (.inr (.inl (1, 1)))), some (.inl x), some (.inl (c0_worstCell_v f x))]) (st' := [.inl ((f (18 + 4 * ((c0_worstCell_v f x).toInt.toNat)) 18) + (1 : Int32)), .inr (.inr (.inl (18, 18 + 4 * ((c0_worstCell_v f x).toInt.toNat))))]) (m' := (f, l)) rfl rfl (fl_oks_ok ⟨True.intro, True.intro, (t2_kc0 (by have e1 : (-1 : Int32).toInt = -1 := (by decide +kernel); have h16 := hc; have := c0_worstCell_vb (f := f) (x := x) hc; omega)), True.intro⟩) rfl ?_
        refine fl_Tq.pfV (k := 18) (m' := (fl_row f (18 + 4 * ((c0_worstCell_v f x).toInt.toNat)) (upd (f (18 + 4 * ((c0_worstCell_v f x).toInt.toNat))) 18 ((f (18 + 4 * ((c0_worstCell_v f x).toInt.toNat)) 18) + (1 : Int32))), l)) rfl (fl_oks_ok ⟨True.intro, (t2_kc0 (by have e1 : (-1 : Int32).toInt = -1 := (by decide +kernel); have h16 := hc; have := c0_worstCell_vb (f := f) (x := x) hc; omega)), True.intro⟩) rfl (t2_upn rfl) ?_
        have e0 : (fl_row f (18 + 4 * ((c0_worstCell_v f x).toInt.toNat)) (upd (f (18 + 4 * ((c0_worstCell_v f x).toInt.toNat))) 18 (c0_countHeldBack_j8_0 f x))) = fl_row f (18 + 4 * ((c0_worstCell_v f x).toInt.toNat)) (upd (f (18 + 4 * ((c0_worstCell_v f x).toInt.toNat))) 18 ((f (18 + 4 * ((c0_worstCell_v f x).toInt.toNat)) 18) + (1 : Int32))) := by
          simp only [c0_countHeldBack_j8_0, if_neg h1, if_neg h2]
        rw [e0] at hJ
        exact hJ
  refine hj78 ?_
  show fl_Tq _ 60 52 [some (.inr (.inr (.inl (1, 1)))), some (.inl x), some (.inl (c0_worstCell_v f x))] [] (fl_row f (18 + 4 * ((c0_worstCell_v f x).toInt.toNat)) (upd (f (18 + 4 * ((c0_worstCell_v f x).toInt.toNat))) 18 (c0_countHeldBack_j8_0 f x)), l) _
  exact fl_Tq.ret rfl rfl rfl k
noncomputable def c0_letCurrent_j26_0 (f : t2_F)  : Int32 := if (f 4 20).toInt < 0 then (1 : Int32) else (0 : Int32)
noncomputable def c0_letCurrent_m (f : t2_F) : t2_F := if (c0_areActual_v (fl_row f 1 (upd (f 1) 9 (0 : Int32))) (5 : Int32)).toInt = 0 then fl_row f 1 (upd (f 1) 9 (0 : Int32)) else (if (t2_heldTo_v (f 4 20) (-(c0_limitOf_v (fl_row f 1 (upd (f 1) 9 (0 : Int32))) (c0_letCurrent_j26_0 f))) (c0_limitOf_v (fl_row f 1 (upd (f 1) 9 (0 : Int32))) (c0_letCurrent_j26_0 f))).toInt = (f 4 20).toInt then fl_row f 1 (upd (f 1) 9 (t2_heldTo_v (f 4 20) (-(c0_limitOf_v (fl_row f 1 (upd (f 1) 9 (0 : Int32))) (c0_letCurrent_j26_0 f))) (c0_limitOf_v (fl_row f 1 (upd (f 1) 9 (0 : Int32))) (c0_letCurrent_j26_0 f)))) else c0_countHeldBack_m (fl_row f 1 (upd (f 1) 9 (t2_heldTo_v (f 4 20) (-(c0_limitOf_v (fl_row f 1 (upd (f 1) 9 (0 : Int32))) (c0_letCurrent_j26_0 f))) (c0_limitOf_v (fl_row f 1 (upd (f 1) 9 (0 : Int32))) (c0_letCurrent_j26_0 f))))) (c0_letCurrent_j26_0 f))
theorem c0_letCurrent_fr {f : t2_F}  {p : Nat} (e0 : p ≠ 1) (e1 : p ≠ 18 + 4 * ((c0_worstCell_v (fl_row f 1 (upd (f 1) 9 (t2_heldTo_v (f 4 20) (-(c0_limitOf_v (fl_row f 1 (upd (f 1) 9 (0 : Int32))) (c0_letCurrent_j26_0 f))) (c0_limitOf_v (fl_row f 1 (upd (f 1) 9 (0 : Int32))) (c0_letCurrent_j26_0 f))))) (c0_letCurrent_j26_0 f)).toInt.toNat)) : c0_letCurrent_m f p = f p := by
  unfold c0_letCurrent_m
  repeat' split
  all_goals first | rfl | (simp only [fl_row_ne e0, fl_row_ne e1, c0_countHeldBack_fr e1]; done) | (simp only [fl_row_ne e0, fl_row_ne e1, c0_countHeldBack_fr e1]; split <;> simp only [fl_row_ne e0, fl_row_ne e1, c0_countHeldBack_fr e1])
theorem c0_letCurrent_q {L : Nat} {xs : Nat → Int32} {f : t2_F} {l : t2_L} {Q : Option fl_V → fl_M → Prop}  (hc : 0 ≤ (f 1 5).toInt ∧ (f 1 5).toInt ≤ 16) (hz : 0 ≤ (f 3 6).toInt ∧ (f 3 6).toInt ≤ 6) (k : Q none (c0_letCurrent_m f, l)) : fl_Tq (pw_P L xs) 59 0 (fl_args (am_mxl (pw_P L xs) 59) [.inr (.inr (.inl (1, 1)))]) [] (f, l) Q := by
  refine fl_Tq.stp (pc' := 1) (lv' := [some (.inr (.inr (.inl (1, 1)))), none, none, none]) (st' := [.inr (.inr (.inl (1, 1)))]) (m' := (f, l)) rfl rfl (fl_bo rfl) rfl ?_
  refine fl_Tq.cI (c := (0 : Int32)) rfl (by decide +kernel) (fl_bo rfl) ?_
  refine fl_Tq.pfV (k := 9) (m' := (fl_row f 1 (upd (f 1) 9 (0 : Int32)), l)) rfl (fl_bo rfl) rfl (t2_upn rfl) ?_
  refine fl_Tq.stp (pc' := 6) (lv' := [some (.inr (.inr (.inl (1, 1)))), none, none, none]) (st' := [.inr (.inr (.inl (1, 1)))]) (m' := (fl_row f 1 (upd (f 1) 9 (0 : Int32)), l)) rfl rfl (fl_bo rfl) rfl ?_
  refine fl_Tq.cI (c := (5 : Int32)) rfl (by decide +kernel) (fl_bo rfl) ?_
  refine fl_Tq.cal rfl rfl (fl_bo rfl) rfl ?_
  refine c0_areActual_q  ?_
  show fl_Tq _ 59 10 [some (.inr (.inr (.inl (1, 1)))), none, none, none] [.inl (c0_areActual_v (fl_row f 1 (upd (f 1) 9 (0 : Int32))) (5 : Int32))] (fl_row f 1 (upd (f 1) 9 (0 : Int32)), l) _
  by_cases h1 : (c0_areActual_v (fl_row f 1 (upd (f 1) 9 (0 : Int32))) (5 : Int32)).toInt = 0
  · refine fl_Tq.zf rfl (fl_bo rfl) (c1_ne_f h1) rfl ?_
    refine fl_Tq.ret rfl rfl rfl ?_
    unfold c0_letCurrent_m at k
    simp only [if_pos h1] at k
    exact k
  · refine fl_Tq.zt rfl (fl_bo rfl) (c1_ne_t h1) rfl ?_
    refine fl_Tq.stp (pc' := 15) (lv' := [some (.inr (.inr (.inl (1, 1)))), none, none, none]) (st' := [.inr (.inr (.inl (1, 1)))]) (m' := (fl_row f 1 (upd (f 1) 9 (0 : Int32)), l)) rfl rfl (fl_bo rfl) rfl ?_
    refine fl_Tq.stp (pc' := 18) (lv' := [some (.inr (.inr (.inl (1, 1)))), none, none, none]) (st' := [.inr (.inr (.inl (3, 3)))]) (m' := (fl_row f 1 (upd (f 1) 9 (0 : Int32)), l)) rfl rfl (fl_bo rfl) rfl ?_
    refine fl_Tq.stp (pc' := 21) (lv' := [some (.inr (.inr (.inl (1, 1)))), none, none, none]) (st' := [.inr (.inr (.inl (4, 4)))]) (m' := (fl_row f 1 (upd (f 1) 9 (0 : Int32)), l)) rfl rfl (fl_bo rfl) rfl ?_
    refine fl_Tq.cB (c := (20 : Int32)) rfl (by decide +kernel) (fl_bo rfl) ?_
    refine fl_Tq.ldV (p := 4) (τ := 4) (n := 30) (z := (0, 0, 0)) (k := 20) (v := f 4 20) rfl (fl_bo rfl) rfl (by decide +kernel) (by decide) (by simp only [fl_row_ne (by decide : 4 ≠ 1)]) ?_
    refine fl_Tq.stp (pc' := 25) (lv' := [some (.inr (.inr (.inl (1, 1)))), some (.inl (f 4 20)), none, none]) (st' := []) (m' := (fl_row f 1 (upd (f 1) 9 (0 : Int32)), l)) rfl rfl (fl_bo rfl) rfl ?_
    refine fl_Tq.stp (pc' := 26) (lv' := [some (.inr (.inr (.inl (1, 1)))), some (.inl (f 4 20)), none, none]) (st' := [.inl (f 4 20)]) (m' := (fl_row f 1 (upd (f 1) 9 (0 : Int32)), l)) rfl rfl (fl_bo rfl) rfl ?_
    have hj79 : fl_Tq (pw_P L xs) 59 34 [some (.inr (.inr (.inl (1, 1)))), some (.inl (f 4 20)), none, none] [.inl (c0_letCurrent_j26_0 f)] (fl_row f 1 (upd (f 1) 9 (0 : Int32)), l) Q → fl_Tq (pw_P L xs) 59 26 [some (.inr (.inr (.inl (1, 1)))), some (.inl (f 4 20)), none, none] [.inl (f 4 20)] (fl_row f 1 (upd (f 1) 9 (0 : Int32)), l) Q := by
      intro hJ
      by_cases h2 : (f 4 20).toInt < 0
      · refine fl_Tq.zf rfl (fl_bo rfl) (c1_ge_f h2) rfl ?_
        refine fl_Tq.cI (c := (1 : Int32)) rfl (by decide +kernel) (fl_bo rfl) ?_
        refine fl_Tq.stp (pc' := 34) (lv' := [some (.inr (.inr (.inl (1, 1)))), some (.inl (f 4 20)), none, none]) (st' := [.inl (1 : Int32)]) (m' := (fl_row f 1 (upd (f 1) 9 (0 : Int32)), l)) rfl rfl (fl_bo rfl) rfl ?_
        have e0 : (c0_letCurrent_j26_0 f) = (1 : Int32) := by simp only [c0_letCurrent_j26_0, if_pos h2]
        rw [e0] at hJ
        exact hJ
      · refine fl_Tq.zt rfl (fl_bo rfl) (c1_ge_t h2) rfl ?_
        refine fl_Tq.cI (c := (0 : Int32)) rfl (by decide +kernel) (fl_bo rfl) ?_
        have e0 : (c0_letCurrent_j26_0 f) = (0 : Int32) := by simp only [c0_letCurrent_j26_0, if_neg h2]
        rw [e0] at hJ
        exact hJ
    refine hj79 ?_
    show fl_Tq _ 59 34 [some (.inr (.inr (.inl (1, 1)))), some (.inl (f 4 20)), none, none] [.inl (c0_letCurrent_j26_0 f)] (fl_row f 1 (upd (f 1) 9 (0 : Int32)), l) _
    refine fl_Tq.stp (pc' := 35) (lv' := [some (.inr (.inr (.inl (1, 1)))), some (.inl (f 4 20)), some (.inl (c0_letCurrent_j26_0 f)), none]) (st' := []) (m' := (fl_row f 1 (upd (f 1) 9 (0 : Int32)), l)) rfl rfl (fl_bo rfl) rfl ?_
    refine fl_Tq.stp (pc' := 36) (lv' := [some (.inr (.inr (.inl (1, 1)))), some (.inl (f 4 20)), some (.inl (c0_letCurrent_j26_0 f)), none]) (st' := [.inr (.inr (.inl (1, 1)))]) (m' := (fl_row f 1 (upd (f 1) 9 (0 : Int32)), l)) rfl rfl (fl_bo rfl) rfl ?_
    refine fl_Tq.stp (pc' := 37) (lv' := [some (.inr (.inr (.inl (1, 1)))), some (.inl (f 4 20)), some (.inl (c0_letCurrent_j26_0 f)), none]) (st' := [.inl (c0_letCurrent_j26_0 f), .inr (.inr (.inl (1, 1)))]) (m' := (fl_row f 1 (upd (f 1) 9 (0 : Int32)), l)) rfl rfl (fl_bo rfl) rfl ?_
    refine fl_Tq.cal rfl rfl (fl_bo rfl) rfl ?_
    refine c0_limitOf_q (by simp only [fl_row_self, upd_ne (by decide : 5 ≠ 9)]; exact hc) (by simp only [fl_row_ne (by decide : 3 ≠ 1)]; exact hz) ?_
    show fl_Tq _ 59 40 [some (.inr (.inr (.inl (1, 1)))), some (.inl (f 4 20)), some (.inl (c0_letCurrent_j26_0 f)), none] [.inl (c0_limitOf_v (fl_row f 1 (upd (f 1) 9 (0 : Int32))) (c0_letCurrent_j26_0 f))] (fl_row f 1 (upd (f 1) 9 (0 : Int32)), l) _
    refine fl_Tq.stp (pc' := 41) (lv' := [some (.inr (.inr (.inl (1, 1)))), some (.inl (f 4 20)), some (.inl (c0_letCurrent_j26_0 f)), some (.inl (c0_limitOf_v (fl_row f 1 (upd (f 1) 9 (0 : Int32))) (c0_letCurrent_j26_0 f)))]) (st' := []) (m' := (fl_row f 1 (upd (f 1) 9 (0 : Int32)), l)) rfl rfl (fl_bo rfl) rfl ?_
    refine fl_Tq.stp (pc' := 42) (lv' := [some (.inr (.inr (.inl (1, 1)))), some (.inl (f 4 20)), some (.inl (c0_letCurrent_j26_0 f)), some (.inl (c0_limitOf_v (fl_row f 1 (upd (f 1) 9 (0 : Int32))) (c0_letCurrent_j26_0 f)))]) (st' := [.inr (.inr (.inl (1, 1)))]) (m' := (fl_row f 1 (upd (f 1) 9 (0 : Int32)), l)) rfl rfl (fl_bo rfl) rfl ?_
    refine fl_Tq.stp (pc' := 43) (lv' := [some (.inr (.inr (.inl (1, 1)))), some (.inl (f 4 20)), some (.inl (c0_letCurrent_j26_0 f)), some (.inl (c0_limitOf_v (fl_row f 1 (upd (f 1) 9 (0 : Int32))) (c0_letCurrent_j26_0 f)))]) (st' := [.inl (f 4 20), .inr (.inr (.inl (1, 1)))]) (m' := (fl_row f 1 (upd (f 1) 9 (0 : Int32)), l)) rfl rfl (fl_bo rfl) rfl ?_
    refine fl_Tq.stp (pc' := 44) (lv' := [some (.inr (.inr (.inl (1, 1)))), some (.inl (f 4 20)), some (.inl (c0_letCurrent_j26_0 f)), some (.inl (c0_limitOf_v (fl_row f 1 (upd (f 1) 9 (0 : Int32))) (c0_letCurrent_j26_0 f)))]) (st' := [.inl (c0_limitOf_v (fl_row f 1 (upd (f 1) 9 (0 : Int32))) (c0_letCurrent_j26_0 f)), .inl (f 4 20), .inr (.inr (.inl (1, 1)))]) (m' := (fl_row f 1 (upd (f 1) 9 (0 : Int32)), l)) rfl rfl (fl_bo rfl) rfl ?_
    refine fl_Tq.stp (pc' := 45) (lv' := [some (.inr (.inr (.inl (1, 1)))), some (.inl (f 4 20)), some (.inl (c0_letCurrent_j26_0 f)), some (.inl (c0_limitOf_v (fl_row f 1 (upd (f 1) 9 (0 : Int32))) (c0_letCurrent_j26_0 f)))]) (st' := [.inl (-(c0_limitOf_v (fl_row f 1 (upd (f 1) 9 (0 : Int32))) (c0_letCurrent_j26_0 f))), .inl (f 4 20), .inr (.inr (.inl (1, 1)))]) (m' := (fl_row f 1 (upd (f 1) 9 (0 : Int32)), l)) rfl rfl (fl_bo rfl) rfl ?_
    refine fl_Tq.stp (pc' := 46) (lv' := [some (.inr (.inr (.inl (1, 1)))), some (.inl (f 4 20)), some (.inl (c0_letCurrent_j26_0 f)), some (.inl (c0_limitOf_v (fl_row f 1 (upd (f 1) 9 (0 : Int32))) (c0_letCurrent_j26_0 f)))]) (st' := [.inl (c0_limitOf_v (fl_row f 1 (upd (f 1) 9 (0 : Int32))) (c0_letCurrent_j26_0 f)), .inl (-(c0_limitOf_v (fl_row f 1 (upd (f 1) 9 (0 : Int32))) (c0_letCurrent_j26_0 f))), .inl (f 4 20), .inr (.inr (.inl (1, 1)))]) (m' := (fl_row f 1 (upd (f 1) 9 (0 : Int32)), l)) rfl rfl (fl_bo rfl) rfl ?_
    refine fl_Tq.cal rfl rfl (fl_bo rfl) rfl ?_
    refine t2_heldTo_q  ?_
    show fl_Tq _ 59 49 [some (.inr (.inr (.inl (1, 1)))), some (.inl (f 4 20)), some (.inl (c0_letCurrent_j26_0 f)), some (.inl (c0_limitOf_v (fl_row f 1 (upd (f 1) 9 (0 : Int32))) (c0_letCurrent_j26_0 f)))] [.inl (t2_heldTo_v (f 4 20) (-(c0_limitOf_v (fl_row f 1 (upd (f 1) 9 (0 : Int32))) (c0_letCurrent_j26_0 f))) (c0_limitOf_v (fl_row f 1 (upd (f 1) 9 (0 : Int32))) (c0_letCurrent_j26_0 f))), .inr (.inr (.inl (1, 1)))] (fl_row f 1 (upd (f 1) 9 (0 : Int32)), l) _
    refine fl_Tq.pfV (k := 9) (m' := (fl_row f 1 (upd (f 1) 9 (t2_heldTo_v (f 4 20) (-(c0_limitOf_v (fl_row f 1 (upd (f 1) 9 (0 : Int32))) (c0_letCurrent_j26_0 f))) (c0_limitOf_v (fl_row f 1 (upd (f 1) 9 (0 : Int32))) (c0_letCurrent_j26_0 f)))), l)) rfl (fl_bo rfl) rfl (t2_upo) ?_
    refine fl_Tq.stp (pc' := 53) (lv' := [some (.inr (.inr (.inl (1, 1)))), some (.inl (f 4 20)), some (.inl (c0_letCurrent_j26_0 f)), some (.inl (c0_limitOf_v (fl_row f 1 (upd (f 1) 9 (0 : Int32))) (c0_letCurrent_j26_0 f)))]) (st' := [.inr (.inr (.inl (1, 1)))]) (m' := (fl_row f 1 (upd (f 1) 9 (t2_heldTo_v (f 4 20) (-(c0_limitOf_v (fl_row f 1 (upd (f 1) 9 (0 : Int32))) (c0_letCurrent_j26_0 f))) (c0_limitOf_v (fl_row f 1 (upd (f 1) 9 (0 : Int32))) (c0_letCurrent_j26_0 f)))), l)) rfl rfl (fl_bo rfl) rfl ?_
    refine fl_Tq.gfV (k := 9) (v := t2_heldTo_v (f 4 20) (-(c0_limitOf_v (fl_row f 1 (upd (f 1) 9 (0 : Int32))) (c0_letCurrent_j26_0 f))) (c0_limitOf_v (fl_row f 1 (upd (f 1) 9 (0 : Int32))) (c0_letCurrent_j26_0 f))) rfl (fl_bo rfl) rfl (by simp only [fl_row_self, upd_self]) ?_
    refine fl_Tq.stp (pc' := 57) (lv' := [some (.inr (.inr (.inl (1, 1)))), some (.inl (f 4 20)), some (.inl (c0_letCurrent_j26_0 f)), some (.inl (c0_limitOf_v (fl_row f 1 (upd (f 1) 9 (0 : Int32))) (c0_letCurrent_j26_0 f)))]) (st' := [.inl (f 4 20), .inl (t2_heldTo_v (f 4 20) (-(c0_limitOf_v (fl_row f 1 (upd (f 1) 9 (0 : Int32))) (c0_letCurrent_j26_0 f))) (c0_limitOf_v (fl_row f 1 (upd (f 1) 9 (0 : Int32))) (c0_letCurrent_j26_0 f)))]) (m' := (fl_row f 1 (upd (f 1) 9 (t2_heldTo_v (f 4 20) (-(c0_limitOf_v (fl_row f 1 (upd (f 1) 9 (0 : Int32))) (c0_letCurrent_j26_0 f))) (c0_limitOf_v (fl_row f 1 (upd (f 1) 9 (0 : Int32))) (c0_letCurrent_j26_0 f)))), l)) rfl rfl (fl_bo rfl) rfl ?_
    have hj80 : fl_Tq (pw_P L xs) 59 65 [some (.inr (.inr (.inl (1, 1)))), some (.inl (f 4 20)), some (.inl (c0_letCurrent_j26_0 f)), some (.inl (c0_limitOf_v (fl_row f 1 (upd (f 1) 9 (0 : Int32))) (c0_letCurrent_j26_0 f)))] [] (if (t2_heldTo_v (f 4 20) (-(c0_limitOf_v (fl_row f 1 (upd (f 1) 9 (0 : Int32))) (c0_letCurrent_j26_0 f))) (c0_limitOf_v (fl_row f 1 (upd (f 1) 9 (0 : Int32))) (c0_letCurrent_j26_0 f))).toInt = (f 4 20).toInt then fl_row f 1 (upd (f 1) 9 (t2_heldTo_v (f 4 20) (-(c0_limitOf_v (fl_row f 1 (upd (f 1) 9 (0 : Int32))) (c0_letCurrent_j26_0 f))) (c0_limitOf_v (fl_row f 1 (upd (f 1) 9 (0 : Int32))) (c0_letCurrent_j26_0 f)))) else c0_countHeldBack_m (fl_row f 1 (upd (f 1) 9 (t2_heldTo_v (f 4 20) (-(c0_limitOf_v (fl_row f 1 (upd (f 1) 9 (0 : Int32))) (c0_letCurrent_j26_0 f))) (c0_limitOf_v (fl_row f 1 (upd (f 1) 9 (0 : Int32))) (c0_letCurrent_j26_0 f))))) (c0_letCurrent_j26_0 f), l) Q → fl_Tq (pw_P L xs) 59 57 [some (.inr (.inr (.inl (1, 1)))), some (.inl (f 4 20)), some (.inl (c0_letCurrent_j26_0 f)), some (.inl (c0_limitOf_v (fl_row f 1 (upd (f 1) 9 (0 : Int32))) (c0_letCurrent_j26_0 f)))] [.inl (f 4 20), .inl (t2_heldTo_v (f 4 20) (-(c0_limitOf_v (fl_row f 1 (upd (f 1) 9 (0 : Int32))) (c0_letCurrent_j26_0 f))) (c0_limitOf_v (fl_row f 1 (upd (f 1) 9 (0 : Int32))) (c0_letCurrent_j26_0 f)))] (fl_row f 1 (upd (f 1) 9 (t2_heldTo_v (f 4 20) (-(c0_limitOf_v (fl_row f 1 (upd (f 1) 9 (0 : Int32))) (c0_letCurrent_j26_0 f))) (c0_limitOf_v (fl_row f 1 (upd (f 1) 9 (0 : Int32))) (c0_letCurrent_j26_0 f)))), l) Q := by
      intro hJ
      by_cases h3 : (t2_heldTo_v (f 4 20) (-(c0_limitOf_v (fl_row f 1 (upd (f 1) 9 (0 : Int32))) (c0_letCurrent_j26_0 f))) (c0_limitOf_v (fl_row f 1 (upd (f 1) 9 (0 : Int32))) (c0_letCurrent_j26_0 f))).toInt = (f 4 20).toInt
      · refine fl_Tq.jt rfl (fl_bo rfl) (c2_eq_t h3) rfl ?_
        have e0 : (if (t2_heldTo_v (f 4 20) (-(c0_limitOf_v (fl_row f 1 (upd (f 1) 9 (0 : Int32))) (c0_letCurrent_j26_0 f))) (c0_limitOf_v (fl_row f 1 (upd (f 1) 9 (0 : Int32))) (c0_letCurrent_j26_0 f))).toInt = (f 4 20).toInt then fl_row f 1 (upd (f 1) 9 (t2_heldTo_v (f 4 20) (-(c0_limitOf_v (fl_row f 1 (upd (f 1) 9 (0 : Int32))) (c0_letCurrent_j26_0 f))) (c0_limitOf_v (fl_row f 1 (upd (f 1) 9 (0 : Int32))) (c0_letCurrent_j26_0 f)))) else c0_countHeldBack_m (fl_row f 1 (upd (f 1) 9 (t2_heldTo_v (f 4 20) (-(c0_limitOf_v (fl_row f 1 (upd (f 1) 9 (0 : Int32))) (c0_letCurrent_j26_0 f))) (c0_limitOf_v (fl_row f 1 (upd (f 1) 9 (0 : Int32))) (c0_letCurrent_j26_0 f))))) (c0_letCurrent_j26_0 f)) = fl_row f 1 (upd (f 1) 9 (t2_heldTo_v (f 4 20) (-(c0_limitOf_v (fl_row f 1 (upd (f 1) 9 (0 : Int32))) (c0_letCurrent_j26_0 f))) (c0_limitOf_v (fl_row f 1 (upd (f 1) 9 (0 : Int32))) (c0_letCurrent_j26_0 f)))) := by simp only [if_pos h3]
        rw [e0] at hJ
        exact hJ
      · refine fl_Tq.jf rfl (fl_bo rfl) (c2_eq_f h3) rfl ?_
        refine fl_Tq.stp (pc' := 61) (lv' := [some (.inr (.inr (.inl (1, 1)))), some (.inl (f 4 20)), some (.inl (c0_letCurrent_j26_0 f)), some (.inl (c0_limitOf_v (fl_row f 1 (upd (f 1) 9 (0 : Int32))) (c0_letCurrent_j26_0 f)))]) (st' := [.inr (.inr (.inl (1, 1)))]) (m' := (fl_row f 1 (upd (f 1) 9 (t2_heldTo_v (f 4 20) (-(c0_limitOf_v (fl_row f 1 (upd (f 1) 9 (0 : Int32))) (c0_letCurrent_j26_0 f))) (c0_limitOf_v (fl_row f 1 (upd (f 1) 9 (0 : Int32))) (c0_letCurrent_j26_0 f)))), l)) rfl rfl (fl_bo rfl) rfl ?_
        refine fl_Tq.stp (pc' := 62) (lv' := [some (.inr (.inr (.inl (1, 1)))), some (.inl (f 4 20)), some (.inl (c0_letCurrent_j26_0 f)), some (.inl (c0_limitOf_v (fl_row f 1 (upd (f 1) 9 (0 : Int32))) (c0_letCurrent_j26_0 f)))]) (st' := [.inl (c0_letCurrent_j26_0 f), .inr (.inr (.inl (1, 1)))]) (m' := (fl_row f 1 (upd (f 1) 9 (t2_heldTo_v (f 4 20) (-(c0_limitOf_v (fl_row f 1 (upd (f 1) 9 (0 : Int32))) (c0_letCurrent_j26_0 f))) (c0_limitOf_v (fl_row f 1 (upd (f 1) 9 (0 : Int32))) (c0_letCurrent_j26_0 f)))), l)) rfl rfl (fl_bo rfl) rfl ?_
        refine fl_Tq.cal rfl rfl (fl_bo rfl) rfl ?_
        refine c0_countHeldBack_q (by simp only [fl_row_self, upd_ne (by decide : 5 ≠ 9)]; exact hc) (by simp only [fl_row_ne (by decide : 3 ≠ 1)]; exact hz) ?_
        show fl_Tq _ 59 65 [some (.inr (.inr (.inl (1, 1)))), some (.inl (f 4 20)), some (.inl (c0_letCurrent_j26_0 f)), some (.inl (c0_limitOf_v (fl_row f 1 (upd (f 1) 9 (0 : Int32))) (c0_letCurrent_j26_0 f)))] [] (c0_countHeldBack_m (fl_row f 1 (upd (f 1) 9 (t2_heldTo_v (f 4 20) (-(c0_limitOf_v (fl_row f 1 (upd (f 1) 9 (0 : Int32))) (c0_letCurrent_j26_0 f))) (c0_limitOf_v (fl_row f 1 (upd (f 1) 9 (0 : Int32))) (c0_letCurrent_j26_0 f))))) (c0_letCurrent_j26_0 f), l) _
        have e0 : (if (t2_heldTo_v (f 4 20) (-(c0_limitOf_v (fl_row f 1 (upd (f 1) 9 (0 : Int32))) (c0_letCurrent_j26_0 f))) (c0_limitOf_v (fl_row f 1 (upd (f 1) 9 (0 : Int32))) (c0_letCurrent_j26_0 f))).toInt = (f 4 20).toInt then fl_row f 1 (upd (f 1) 9 (t2_heldTo_v (f 4 20) (-(c0_limitOf_v (fl_row f 1 (upd (f 1) 9 (0 : Int32))) (c0_letCurrent_j26_0 f))) (c0_limitOf_v (fl_row f 1 (upd (f 1) 9 (0 : Int32))) (c0_letCurrent_j26_0 f)))) else c0_countHeldBack_m (fl_row f 1 (upd (f 1) 9 (t2_heldTo_v (f 4 20) (-(c0_limitOf_v (fl_row f 1 (upd (f 1) 9 (0 : Int32))) (c0_letCurrent_j26_0 f))) (c0_limitOf_v (fl_row f 1 (upd (f 1) 9 (0 : Int32))) (c0_letCurrent_j26_0 f))))) (c0_letCurrent_j26_0 f)) = c0_countHeldBack_m (fl_row f 1 (upd (f 1) 9 (t2_heldTo_v (f 4 20) (-(c0_limitOf_v (fl_row f 1 (upd (f 1) 9 (0 : Int32))) (c0_letCurrent_j26_0 f))) (c0_limitOf_v (fl_row f 1 (upd (f 1) 9 (0 : Int32))) (c0_letCurrent_j26_0 f))))) (c0_letCurrent_j26_0 f) := by simp only [if_neg h3]
        rw [e0] at hJ
        exact hJ
    refine hj80 ?_
    show fl_Tq _ 59 65 [some (.inr (.inr (.inl (1, 1)))), some (.inl (f 4 20)), some (.inl (c0_letCurrent_j26_0 f)), some (.inl (c0_limitOf_v (fl_row f 1 (upd (f 1) 9 (0 : Int32))) (c0_letCurrent_j26_0 f)))] [] (if (t2_heldTo_v (f 4 20) (-(c0_limitOf_v (fl_row f 1 (upd (f 1) 9 (0 : Int32))) (c0_letCurrent_j26_0 f))) (c0_limitOf_v (fl_row f 1 (upd (f 1) 9 (0 : Int32))) (c0_letCurrent_j26_0 f))).toInt = (f 4 20).toInt then fl_row f 1 (upd (f 1) 9 (t2_heldTo_v (f 4 20) (-(c0_limitOf_v (fl_row f 1 (upd (f 1) 9 (0 : Int32))) (c0_letCurrent_j26_0 f))) (c0_limitOf_v (fl_row f 1 (upd (f 1) 9 (0 : Int32))) (c0_letCurrent_j26_0 f)))) else c0_countHeldBack_m (fl_row f 1 (upd (f 1) 9 (t2_heldTo_v (f 4 20) (-(c0_limitOf_v (fl_row f 1 (upd (f 1) 9 (0 : Int32))) (c0_letCurrent_j26_0 f))) (c0_limitOf_v (fl_row f 1 (upd (f 1) 9 (0 : Int32))) (c0_letCurrent_j26_0 f))))) (c0_letCurrent_j26_0 f), l) _
    refine fl_Tq.ret rfl rfl rfl ?_
    unfold c0_letCurrent_m at k
    simp only [if_neg h1] at k
    exact k
theorem c2_worstCell_b {f : t2_F} {x : Int32} (k : Nat) : k ≤ 16 → ((c2_worstCell_a8 f x k).1).toInt = -1 ∨ (0 ≤ ((c2_worstCell_a8 f x k).1).toInt ∧ ((c2_worstCell_a8 f x k).1).toInt < k) := by
  induction k with
  | zero =>
    intro _
    left
    show (-1 : Int32).toInt = -1
    decide +kernel
  | succ k ih =>
    intro hk
    have ih := ih (by omega)
    have e : (Int32.ofNat k).toInt = k := at_ofN (by omega)
    unfold c2_worstCell_a8
    dsimp only
    repeat' split
    all_goals omega
theorem c2_worstCell_vb {f : t2_F} {x : Int32} (hc : 0 ≤ (f 181 5).toInt ∧ (f 181 5).toInt ≤ 16) : (c2_worstCell_v f x).toInt = -1 ∨ (0 ≤ (c2_worstCell_v f x).toInt ∧ (c2_worstCell_v f x).toInt < (f 181 5).toInt) := by
  have := c2_worstCell_b (f := f) (x := x) (f 181 5).toInt.toNat (by omega)
  unfold c2_worstCell_v
  omega
noncomputable def c2_limitOf_j18_0 (f : t2_F) (x : Int32) : Int32 := if (c2_worstCell_v f x).toInt = (-1 : Int32).toInt then f 184 4 else t2_min_v (f 184 4) (c2_ownLimit_v f ((c2_worstCell_v f x).toInt.toNat) x)
noncomputable def c2_limitOf_v (f : t2_F) (x : Int32) : Int32 := c2_limitOf_j18_0 f x
theorem c2_limitOf_q {L : Nat} {xs : Nat → Int32} {f : t2_F} {l : t2_L} {Q : Option fl_V → fl_M → Prop} {x : Int32} (hc : 0 ≤ (f 181 5).toInt ∧ (f 181 5).toInt ≤ 16) (hz : 0 ≤ (f 183 6).toInt ∧ (f 183 6).toInt ≤ 6) (k : Q (some (.inl (c2_limitOf_v f x))) (f, l)) : fl_Tq (pw_P L xs) 50 0 (fl_args (am_mxl (pw_P L xs) 50) [.inr (.inr (.inl (49, 181))), .inl x]) [] (f, l) Q := by
  refine fl_Tq.stp (pc' := 1) (lv' := [some (.inr (.inr (.inl (49, 181)))), some (.inl x), none, none]) (st' := [.inr (.inr (.inl (49, 181)))]) (m' := (f, l)) rfl rfl (fl_bo rfl) rfl ?_
  refine fl_Tq.stp (pc' := 4) (lv' := [some (.inr (.inr (.inl (49, 181)))), some (.inl x), none, none]) (st' := [.inr (.inr (.inl (51, 183)))]) (m' := (f, l)) rfl rfl (fl_bo rfl) rfl ?_
  refine fl_Tq.stp (pc' := 7) (lv' := [some (.inr (.inr (.inl (49, 181)))), some (.inl x), none, none]) (st' := [.inr (.inr (.inl (52, 184)))]) (m' := (f, l)) rfl rfl (fl_bo rfl) rfl ?_
  refine fl_Tq.cI (c := (4 : Int32)) rfl (by decide +kernel) (fl_bo rfl) ?_
  refine fl_Tq.ldV (p := 184) (τ := 52) (n := 30) (z := (0, 0, 0)) (k := 4) (v := f 184 4) rfl (fl_bo rfl) rfl (by decide +kernel) (by decide) rfl ?_
  refine fl_Tq.stp (pc' := 10) (lv' := [some (.inr (.inr (.inl (49, 181)))), some (.inl x), some (.inl (f 184 4)), none]) (st' := []) (m' := (f, l)) rfl rfl (fl_bo rfl) rfl ?_
  refine fl_Tq.stp (pc' := 11) (lv' := [some (.inr (.inr (.inl (49, 181)))), some (.inl x), some (.inl (f 184 4)), none]) (st' := [.inr (.inr (.inl (49, 181)))]) (m' := (f, l)) rfl rfl (fl_bo rfl) rfl ?_
  refine fl_Tq.stp (pc' := 12) (lv' := [some (.inr (.inr (.inl (49, 181)))), some (.inl x), some (.inl (f 184 4)), none]) (st' := [.inl x, .inr (.inr (.inl (49, 181)))]) (m' := (f, l)) rfl rfl (fl_bo rfl) rfl ?_
  refine fl_Tq.cal rfl rfl (fl_bo rfl) rfl ?_
  refine c2_worstCell_q hc hz ?_
  show fl_Tq _ 50 15 [some (.inr (.inr (.inl (49, 181)))), some (.inl x), some (.inl (f 184 4)), none] [.inl (c2_worstCell_v f x)] (f, l) _
  refine fl_Tq.stp (pc' := 16) (lv' := [some (.inr (.inr (.inl (49, 181)))), some (.inl x), some (.inl (f 184 4)), some (.inl (c2_worstCell_v f x))]) (st' := []) (m' := (f, l)) rfl rfl (fl_bo rfl) rfl ?_
  refine fl_Tq.stp (pc' := 17) (lv' := [some (.inr (.inr (.inl (49, 181)))), some (.inl x), some (.inl (f 184 4)), some (.inl (c2_worstCell_v f x))]) (st' := [.inl (c2_worstCell_v f x)]) (m' := (f, l)) rfl rfl (fl_bo rfl) rfl ?_
  refine fl_Tq.cI (c := (-1 : Int32)) rfl (by decide +kernel) (fl_bo rfl) ?_
  have hj81 : fl_Tq (pw_P L xs) 50 43 [some (.inr (.inr (.inl (49, 181)))), some (.inl x), some (.inl (f 184 4)), some (.inl (c2_worstCell_v f x))] [.inl (c2_limitOf_j18_0 f x)] (f, l) Q → fl_Tq (pw_P L xs) 50 18 [some (.inr (.inr (.inl (49, 181)))), some (.inl x), some (.inl (f 184 4)), some (.inl (c2_worstCell_v f x))] [.inl (-1 : Int32), .inl (c2_worstCell_v f x)] (f, l) Q := by
    intro hJ
    by_cases h1 : (c2_worstCell_v f x).toInt = (-1 : Int32).toInt
    · refine fl_Tq.jf rfl (fl_bo rfl) (c2_ne_f h1) rfl ?_
      refine fl_Tq.stp (pc' := 22) (lv' := [some (.inr (.inr (.inl (49, 181)))), some (.inl x), some (.inl (f 184 4)), some (.inl (c2_worstCell_v f x))]) (st' := [.inl (f 184 4)]) (m' := (f, l)) rfl rfl (fl_bo rfl) rfl ?_
      refine fl_Tq.stp (pc' := 43) (lv' := [some (.inr (.inr (.inl (49, 181)))), some (.inl x), some (.inl (f 184 4)), some (.inl (c2_worstCell_v f x))]) (st' := [.inl (f 184 4)]) (m' := (f, l)) rfl rfl (fl_bo rfl) rfl ?_
      have e0 : (c2_limitOf_j18_0 f x) = f 184 4 := by simp only [c2_limitOf_j18_0, if_pos h1]
      rw [e0] at hJ
      exact hJ
    · refine fl_Tq.jt rfl (fl_bo rfl) (c2_ne_t h1) rfl ?_
      refine fl_Tq.stp (pc' := 26) (lv' := [some (.inr (.inr (.inl (49, 181)))), some (.inl x), some (.inl (f 184 4)), some (.inl (c2_worstCell_v f x))]) (st' := [.inl (f 184 4)]) (m' := (f, l)) rfl rfl (fl_bo rfl) rfl ?_
      refine fl_Tq.stp (pc' := 27) (lv' := [some (.inr (.inr (.inl (49, 181)))), some (.inl x), some (.inl (f 184 4)), some (.inl (c2_worstCell_v f x))]) (st' := [.inr (.inr (.inl (49, 181))), .inl (f 184 4)]) (m' := (f, l)) rfl rfl (fl_bo rfl) rfl ?_
      refine fl_Tq.stp (pc' := 30) (lv' := [some (.inr (.inr (.inl (49, 181)))), some (.inl x), some (.inl (f 184 4)), some (.inl (c2_worstCell_v f x))]) (st' := [.inr (.inr (.inl (50, 182))), .inl (f 184 4)]) (m' := (f, l)) rfl rfl (fl_bo rfl) rfl ?_
      refine fl_Tq.stp (pc' := 31) (lv' := [some (.inr (.inr (.inl (49, 181)))), some (.inl x), some (.inl (f 184 4)), some (.inl (c2_worstCell_v f x))]) (st' := [.inl (c2_worstCell_v f x), .inr (.inr (.inl (50, 182))), .inl (f 184 4)]) (m' := (f, l)) rfl rfl (fl_bo rfl) rfl ?_
      refine fl_Tq.qld (p := 182) (τ := 50) (n := 16) (t := 66) (b := 16) (d := 3) (k := (c2_worstCell_v f x).toInt.toNat) rfl (fl_bo rfl) rfl (t2_nn (by have e1 : (-1 : Int32).toInt = -1 := (by decide +kernel); have := c2_worstCell_vb (f := f) (x := x) hc; omega)) (by have e1 : (-1 : Int32).toInt = -1 := (by decide +kernel); have h16 := hc; have := c2_worstCell_vb (f := f) (x := x) hc; omega) ?_
      show fl_Tq _ 50 32 [some (.inr (.inr (.inl (49, 181)))), some (.inl x), some (.inl (f 184 4)), some (.inl (c2_worstCell_v f x))] [.inr (.inr (.inl (66, 198 + 4 * ((c2_worstCell_v f x).toInt.toNat)))), .inl (f 184 4)] (f, l) _
      refine fl_Tq.stp (pc' := 33) (lv' := [some (.inr (.inr (.inl (49, 181)))), some (.inl x), some (.inl (f 184 4)), some (.inl (c2_worstCell_v f x))]) (st' := [.inl x, .inr (.inr (.inl (66, 198 + 4 * ((c2_worstCell_v f x).toInt.toNat)))), .inl (f 184 4)]) (m' := (f, l)) rfl rfl (fl_oks_ok ⟨(t2_kc2 (by have e1 : (-1 : Int32).toInt = -1 := (by decide +kernel); have h16 := hc; have := c2_worstCell_vb (f := f) (x := x) hc; omega)), True.intro, True.intro⟩) rfl ?_
      refine fl_Tq.stp (pc' := 34) (lv' := [some (.inr (.inr (.inl (49, 181)))), some (.inl x), some (.inl (f 184 4)), some (.inl (c2_worstCell_v f x))]) (st' := [.inr (.inr (.inl (49, 181))), .inl x, .inr (.inr (.inl (66, 198 + 4 * ((c2_worstCell_v f x).toInt.toNat)))), .inl (f 184 4)]) (m' := (f, l)) rfl rfl (fl_oks_ok ⟨True.intro, (t2_kc2 (by have e1 : (-1 : Int32).toInt = -1 := (by decide +kernel); have h16 := hc; have := c2_worstCell_vb (f := f) (x := x) hc; omega)), True.intro, True.intro⟩) rfl ?_
      refine fl_Tq.stp (pc' := 37) (lv' := [some (.inr (.inr (.inl (49, 181)))), some (.inl x), some (.inl (f 184 4)), some (.inl (c2_worstCell_v f x))]) (st' := [.inr (.inr (.inl (51, 183))), .inl x, .inr (.inr (.inl (66, 198 + 4 * ((c2_worstCell_v f x).toInt.toNat)))), .inl (f 184 4)]) (m' := (f, l)) rfl rfl (fl_oks_ok ⟨fl_okp (by decide +kernel) (by decide), True.intro, (t2_kc2 (by have e1 : (-1 : Int32).toInt = -1 := (by decide +kernel); have h16 := hc; have := c2_worstCell_vb (f := f) (x := x) hc; omega)), True.intro, True.intro⟩) rfl ?_
      refine fl_Tq.cal rfl rfl (fl_oks_ok ⟨fl_okp (by decide +kernel) (by decide), True.intro, (t2_kc2 (by have e1 : (-1 : Int32).toInt = -1 := (by decide +kernel); have h16 := hc; have := c2_worstCell_vb (f := f) (x := x) hc; omega)), True.intro, True.intro⟩) rfl ?_
      refine c2_ownLimit_q (by have e1 : (-1 : Int32).toInt = -1 := (by decide +kernel); have hq := hc; have := c2_worstCell_vb (f := f) (x := x) hc; omega) hz ?_
      show fl_Tq _ 50 40 [some (.inr (.inr (.inl (49, 181)))), some (.inl x), some (.inl (f 184 4)), some (.inl (c2_worstCell_v f x))] [.inl (c2_ownLimit_v f ((c2_worstCell_v f x).toInt.toNat) x), .inl (f 184 4)] (f, l) _
      refine fl_Tq.cal rfl rfl (fl_bo rfl) rfl ?_
      refine t2_min_q  ?_
      show fl_Tq _ 50 43 [some (.inr (.inr (.inl (49, 181)))), some (.inl x), some (.inl (f 184 4)), some (.inl (c2_worstCell_v f x))] [.inl (t2_min_v (f 184 4) (c2_ownLimit_v f ((c2_worstCell_v f x).toInt.toNat) x))] (f, l) _
      have e0 : (c2_limitOf_j18_0 f x) = t2_min_v (f 184 4) (c2_ownLimit_v f ((c2_worstCell_v f x).toInt.toNat) x) := by simp only [c2_limitOf_j18_0, if_neg h1]
      rw [e0] at hJ
      exact hJ
  refine hj81 ?_
  show fl_Tq _ 50 43 [some (.inr (.inr (.inl (49, 181)))), some (.inl x), some (.inl (f 184 4)), some (.inl (c2_worstCell_v f x))] [.inl (c2_limitOf_j18_0 f x)] (f, l) _
  exact fl_Tq.ret rfl rfl rfl k
noncomputable def c2_countHeldBack_j8_0 (f : t2_F) (x : Int32) : Int32 := if (c2_worstCell_v f x).toInt = (-1 : Int32).toInt then f (198 + 4 * ((c2_worstCell_v f x).toInt.toNat)) 18 else (if (f 184 4).toInt < (c2_ownLimit_v f ((c2_worstCell_v f x).toInt.toNat) x).toInt then f (198 + 4 * ((c2_worstCell_v f x).toInt.toNat)) 18 else (f (198 + 4 * ((c2_worstCell_v f x).toInt.toNat)) 18) + (1 : Int32))
noncomputable def c2_countHeldBack_m (f : t2_F) (x : Int32) : t2_F := fl_row f (198 + 4 * ((c2_worstCell_v f x).toInt.toNat)) (upd (f (198 + 4 * ((c2_worstCell_v f x).toInt.toNat))) 18 (c2_countHeldBack_j8_0 f x))
theorem c2_countHeldBack_fr {f : t2_F} {x : Int32} {p : Nat} (e0 : p ≠ 198 + 4 * ((c2_worstCell_v f x).toInt.toNat)) : c2_countHeldBack_m f x p = f p := by
  unfold c2_countHeldBack_m
  repeat' split
  all_goals first | rfl | simp only [fl_row_ne e0]
theorem c2_countHeldBack_q {L : Nat} {xs : Nat → Int32} {f : t2_F} {l : t2_L} {Q : Option fl_V → fl_M → Prop} {x : Int32} (hc : 0 ≤ (f 181 5).toInt ∧ (f 181 5).toInt ≤ 16) (hz : 0 ≤ (f 183 6).toInt ∧ (f 183 6).toInt ≤ 6) (k : Q none (c2_countHeldBack_m f x, l)) : fl_Tq (pw_P L xs) 60 0 (fl_args (am_mxl (pw_P L xs) 60) [.inr (.inr (.inl (49, 181))), .inl x]) [] (f, l) Q := by
  refine fl_Tq.stp (pc' := 1) (lv' := [some (.inr (.inr (.inl (49, 181)))), some (.inl x), none]) (st' := [.inr (.inr (.inl (49, 181)))]) (m' := (f, l)) rfl rfl (fl_bo rfl) rfl ?_
  refine fl_Tq.stp (pc' := 2) (lv' := [some (.inr (.inr (.inl (49, 181)))), some (.inl x), none]) (st' := [.inl x, .inr (.inr (.inl (49, 181)))]) (m' := (f, l)) rfl rfl (fl_bo rfl) rfl ?_
  refine fl_Tq.cal rfl rfl (fl_bo rfl) rfl ?_
  refine c2_worstCell_q hc hz ?_
  show fl_Tq _ 60 5 [some (.inr (.inr (.inl (49, 181)))), some (.inl x), none] [.inl (c2_worstCell_v f x)] (f, l) _
  refine fl_Tq.stp (pc' := 6) (lv' := [some (.inr (.inr (.inl (49, 181)))), some (.inl x), some (.inl (c2_worstCell_v f x))]) (st' := []) (m' := (f, l)) rfl rfl (fl_bo rfl) rfl ?_
  refine fl_Tq.stp (pc' := 7) (lv' := [some (.inr (.inr (.inl (49, 181)))), some (.inl x), some (.inl (c2_worstCell_v f x))]) (st' := [.inl (c2_worstCell_v f x)]) (m' := (f, l)) rfl rfl (fl_bo rfl) rfl ?_
  refine fl_Tq.cI (c := (-1 : Int32)) rfl (by decide +kernel) (fl_bo rfl) ?_
  have hj82 : fl_Tq (pw_P L xs) 60 52 [some (.inr (.inr (.inl (49, 181)))), some (.inl x), some (.inl (c2_worstCell_v f x))] [] (fl_row f (198 + 4 * ((c2_worstCell_v f x).toInt.toNat)) (upd (f (198 + 4 * ((c2_worstCell_v f x).toInt.toNat))) 18 (c2_countHeldBack_j8_0 f x)), l) Q → fl_Tq (pw_P L xs) 60 8 [some (.inr (.inr (.inl (49, 181)))), some (.inl x), some (.inl (c2_worstCell_v f x))] [.inl (-1 : Int32), .inl (c2_worstCell_v f x)] (f, l) Q := by
    intro hJ
    by_cases h1 : (c2_worstCell_v f x).toInt = (-1 : Int32).toInt
    · refine fl_Tq.jt rfl (fl_bo rfl) (c2_eq_t h1) rfl ?_
      have e0 : (fl_row f (198 + 4 * ((c2_worstCell_v f x).toInt.toNat)) (upd (f (198 + 4 * ((c2_worstCell_v f x).toInt.toNat))) 18 (c2_countHeldBack_j8_0 f x))) = f := by
        simp only [c2_countHeldBack_j8_0, if_pos h1]
        funext q j
        simp only [fl_row, upd]
        repeat' split
        all_goals first | rfl | simp_all
      rw [e0] at hJ
      exact hJ
    · refine fl_Tq.jf rfl (fl_bo rfl) (c2_eq_f h1) rfl ?_
      refine fl_Tq.stp (pc' := 12) (lv' := [some (.inr (.inr (.inl (49, 181)))), some (.inl x), some (.inl (c2_worstCell_v f x))]) (st' := [.inr (.inr (.inl (49, 181)))]) (m' := (f, l)) rfl rfl (fl_bo rfl) rfl ?_
      refine fl_Tq.stp (pc' := 15) (lv' := [some (.inr (.inr (.inl (49, 181)))), some (.inl x), some (.inl (c2_worstCell_v f x))]) (st' := [.inr (.inr (.inl (50, 182)))]) (m' := (f, l)) rfl rfl (fl_bo rfl) rfl ?_
      refine fl_Tq.stp (pc' := 16) (lv' := [some (.inr (.inr (.inl (49, 181)))), some (.inl x), some (.inl (c2_worstCell_v f x))]) (st' := [.inl (c2_worstCell_v f x), .inr (.inr (.inl (50, 182)))]) (m' := (f, l)) rfl rfl (fl_bo rfl) rfl ?_
      refine fl_Tq.qld (p := 182) (τ := 50) (n := 16) (t := 66) (b := 16) (d := 3) (k := (c2_worstCell_v f x).toInt.toNat) rfl (fl_bo rfl) rfl (t2_nn (by have e1 : (-1 : Int32).toInt = -1 := (by decide +kernel); have := c2_worstCell_vb (f := f) (x := x) hc; omega)) (by have e1 : (-1 : Int32).toInt = -1 := (by decide +kernel); have h16 := hc; have := c2_worstCell_vb (f := f) (x := x) hc; omega) ?_
      show fl_Tq _ 60 17 [some (.inr (.inr (.inl (49, 181)))), some (.inl x), some (.inl (c2_worstCell_v f x))] [.inr (.inr (.inl (66, 198 + 4 * ((c2_worstCell_v f x).toInt.toNat))))] (f, l) _
      refine fl_Tq.stp (pc' := 18) (lv' := [some (.inr (.inr (.inl (49, 181)))), some (.inl x), some (.inl (c2_worstCell_v f x))]) (st' := [.inl x, .inr (.inr (.inl (66, 198 + 4 * ((c2_worstCell_v f x).toInt.toNat))))]) (m' := (f, l)) rfl rfl (fl_oks_ok ⟨(t2_kc2 (by have e1 : (-1 : Int32).toInt = -1 := (by decide +kernel); have h16 := hc; have := c2_worstCell_vb (f := f) (x := x) hc; omega)), True.intro⟩) rfl ?_
      refine fl_Tq.stp (pc' := 19) (lv' := [some (.inr (.inr (.inl (49, 181)))), some (.inl x), some (.inl (c2_worstCell_v f x))]) (st' := [.inr (.inr (.inl (49, 181))), .inl x, .inr (.inr (.inl (66, 198 + 4 * ((c2_worstCell_v f x).toInt.toNat))))]) (m' := (f, l)) rfl rfl (fl_oks_ok ⟨True.intro, (t2_kc2 (by have e1 : (-1 : Int32).toInt = -1 := (by decide +kernel); have h16 := hc; have := c2_worstCell_vb (f := f) (x := x) hc; omega)), True.intro⟩) rfl ?_
      refine fl_Tq.stp (pc' := 22) (lv' := [some (.inr (.inr (.inl (49, 181)))), some (.inl x), some (.inl (c2_worstCell_v f x))]) (st' := [.inr (.inr (.inl (51, 183))), .inl x, .inr (.inr (.inl (66, 198 + 4 * ((c2_worstCell_v f x).toInt.toNat))))]) (m' := (f, l)) rfl rfl (fl_oks_ok ⟨fl_okp (by decide +kernel) (by decide), True.intro, (t2_kc2 (by have e1 : (-1 : Int32).toInt = -1 := (by decide +kernel); have h16 := hc; have := c2_worstCell_vb (f := f) (x := x) hc; omega)), True.intro⟩) rfl ?_
      refine fl_Tq.cal rfl rfl (fl_oks_ok ⟨fl_okp (by decide +kernel) (by decide), True.intro, (t2_kc2 (by have e1 : (-1 : Int32).toInt = -1 := (by decide +kernel); have h16 := hc; have := c2_worstCell_vb (f := f) (x := x) hc; omega)), True.intro⟩) rfl ?_
      refine c2_ownLimit_q (by have e1 : (-1 : Int32).toInt = -1 := (by decide +kernel); have hq := hc; have := c2_worstCell_vb (f := f) (x := x) hc; omega) hz ?_
      show fl_Tq _ 60 25 [some (.inr (.inr (.inl (49, 181)))), some (.inl x), some (.inl (c2_worstCell_v f x))] [.inl (c2_ownLimit_v f ((c2_worstCell_v f x).toInt.toNat) x)] (f, l) _
      refine fl_Tq.stp (pc' := 26) (lv' := [some (.inr (.inr (.inl (49, 181)))), some (.inl x), some (.inl (c2_worstCell_v f x))]) (st' := [.inr (.inr (.inl (49, 181))), .inl (c2_ownLimit_v f ((c2_worstCell_v f x).toInt.toNat) x)]) (m' := (f, l)) rfl rfl (fl_bo rfl) rfl ?_
      refine fl_Tq.stp (pc' := 29) (lv' := [some (.inr (.inr (.inl (49, 181)))), some (.inl x), some (.inl (c2_worstCell_v f x))]) (st' := [.inr (.inr (.inl (51, 183))), .inl (c2_ownLimit_v f ((c2_worstCell_v f x).toInt.toNat) x)]) (m' := (f, l)) rfl rfl (fl_bo rfl) rfl ?_
      refine fl_Tq.stp (pc' := 32) (lv' := [some (.inr (.inr (.inl (49, 181)))), some (.inl x), some (.inl (c2_worstCell_v f x))]) (st' := [.inr (.inr (.inl (52, 184))), .inl (c2_ownLimit_v f ((c2_worstCell_v f x).toInt.toNat) x)]) (m' := (f, l)) rfl rfl (fl_bo rfl) rfl ?_
      refine fl_Tq.cI (c := (4 : Int32)) rfl (by decide +kernel) (fl_bo rfl) ?_
      refine fl_Tq.ldV (p := 184) (τ := 52) (n := 30) (z := (0, 0, 0)) (k := 4) (v := f 184 4) rfl (fl_bo rfl) rfl (by decide +kernel) (by decide) rfl ?_
      by_cases h2 : (f 184 4).toInt < (c2_ownLimit_v f ((c2_worstCell_v f x).toInt.toNat) x).toInt
      · refine fl_Tq.jt rfl (fl_bo rfl) (c2_gt_t h2) rfl ?_
        have e0 : (fl_row f (198 + 4 * ((c2_worstCell_v f x).toInt.toNat)) (upd (f (198 + 4 * ((c2_worstCell_v f x).toInt.toNat))) 18 (c2_countHeldBack_j8_0 f x))) = f := by
          simp only [c2_countHeldBack_j8_0, if_neg h1, if_pos h2]
          funext q j
          simp only [fl_row, upd]
          repeat' split
          all_goals first | rfl | simp_all
        rw [e0] at hJ
        exact hJ
      · refine fl_Tq.jf rfl (fl_bo rfl) (c2_gt_f h2) rfl ?_
        refine fl_Tq.stp (pc' := 38) (lv' := [some (.inr (.inr (.inl (49, 181)))), some (.inl x), some (.inl (c2_worstCell_v f x))]) (st' := [.inr (.inr (.inl (49, 181)))]) (m' := (f, l)) rfl rfl (fl_bo rfl) rfl ?_
        refine fl_Tq.stp (pc' := 41) (lv' := [some (.inr (.inr (.inl (49, 181)))), some (.inl x), some (.inl (c2_worstCell_v f x))]) (st' := [.inr (.inr (.inl (50, 182)))]) (m' := (f, l)) rfl rfl (fl_bo rfl) rfl ?_
        refine fl_Tq.stp (pc' := 42) (lv' := [some (.inr (.inr (.inl (49, 181)))), some (.inl x), some (.inl (c2_worstCell_v f x))]) (st' := [.inl (c2_worstCell_v f x), .inr (.inr (.inl (50, 182)))]) (m' := (f, l)) rfl rfl (fl_bo rfl) rfl ?_
        refine fl_Tq.qld (p := 182) (τ := 50) (n := 16) (t := 66) (b := 16) (d := 3) (k := (c2_worstCell_v f x).toInt.toNat) rfl (fl_bo rfl) rfl (t2_nn (by have e1 : (-1 : Int32).toInt = -1 := (by decide +kernel); have := c2_worstCell_vb (f := f) (x := x) hc; omega)) (by have e1 : (-1 : Int32).toInt = -1 := (by decide +kernel); have h16 := hc; have := c2_worstCell_vb (f := f) (x := x) hc; omega) ?_
        show fl_Tq _ 60 43 [some (.inr (.inr (.inl (49, 181)))), some (.inl x), some (.inl (c2_worstCell_v f x))] [.inr (.inr (.inl (66, 198 + 4 * ((c2_worstCell_v f x).toInt.toNat))))] (f, l) _
        refine fl_Tq.stp (pc' := 44) (lv' := [some (.inr (.inr (.inl (49, 181)))), some (.inl x), some (.inl (c2_worstCell_v f x))]) (st' := [.inr (.inr (.inl (66, 198 + 4 * ((c2_worstCell_v f x).toInt.toNat)))), .inr (.inr (.inl (66, 198 + 4 * ((c2_worstCell_v f x).toInt.toNat))))]) (m' := (f, l)) rfl rfl (fl_oks_ok ⟨(t2_kc2 (by have e1 : (-1 : Int32).toInt = -1 := (by decide +kernel); have h16 := hc; have := c2_worstCell_vb (f := f) (x := x) hc; omega)), True.intro⟩) rfl ?_
        refine fl_Tq.gfV (k := 18) (v := f (198 + 4 * ((c2_worstCell_v f x).toInt.toNat)) 18) rfl (fl_oks_ok ⟨(t2_kc2 (by have e1 : (-1 : Int32).toInt = -1 := (by decide +kernel); have h16 := hc; have := c2_worstCell_vb (f := f) (x := x) hc; omega)), (t2_kc2 (by have e1 : (-1 : Int32).toInt = -1 := (by decide +kernel); have h16 := hc; have := c2_worstCell_vb (f := f) (x := x) hc; omega)), True.intro⟩) rfl rfl ?_
        refine fl_Tq.cI (c := (1 : Int32)) rfl (by decide +kernel) (fl_oks_ok ⟨True.intro, (t2_kc2 (by have e1 : (-1 : Int32).toInt = -1 := (by decide +kernel); have h16 := hc; have := c2_worstCell_vb (f := f) (x := x) hc; omega)), True.intro⟩) ?_
        refine fl_Tq.stp (pc' := 49) (lv' := [some (.inr (.inr (.inl (49, 181)))), some (.inl x), some (.inl (c2_worstCell_v f x))]) (st' := [.inl ((f (198 + 4 * ((c2_worstCell_v f x).toInt.toNat)) 18) + (1 : Int32)), .inr (.inr (.inl (66, 198 + 4 * ((c2_worstCell_v f x).toInt.toNat))))]) (m' := (f, l)) rfl rfl (fl_oks_ok ⟨True.intro, True.intro, (t2_kc2 (by have e1 : (-1 : Int32).toInt = -1 := (by decide +kernel); have h16 := hc; have := c2_worstCell_vb (f := f) (x := x) hc; omega)), True.intro⟩) rfl ?_
        refine fl_Tq.pfV (k := 18) (m' := (fl_row f (198 + 4 * ((c2_worstCell_v f x).toInt.toNat)) (upd (f (198 + 4 * ((c2_worstCell_v f x).toInt.toNat))) 18 ((f (198 + 4 * ((c2_worstCell_v f x).toInt.toNat)) 18) + (1 : Int32))), l)) rfl (fl_oks_ok ⟨True.intro, (t2_kc2 (by have e1 : (-1 : Int32).toInt = -1 := (by decide +kernel); have h16 := hc; have := c2_worstCell_vb (f := f) (x := x) hc; omega)), True.intro⟩) rfl (t2_upn rfl) ?_
        have e0 : (fl_row f (198 + 4 * ((c2_worstCell_v f x).toInt.toNat)) (upd (f (198 + 4 * ((c2_worstCell_v f x).toInt.toNat))) 18 (c2_countHeldBack_j8_0 f x))) = fl_row f (198 + 4 * ((c2_worstCell_v f x).toInt.toNat)) (upd (f (198 + 4 * ((c2_worstCell_v f x).toInt.toNat))) 18 ((f (198 + 4 * ((c2_worstCell_v f x).toInt.toNat)) 18) + (1 : Int32))) := by
          simp only [c2_countHeldBack_j8_0, if_neg h1, if_neg h2]
        rw [e0] at hJ
        exact hJ
  refine hj82 ?_
  show fl_Tq _ 60 52 [some (.inr (.inr (.inl (49, 181)))), some (.inl x), some (.inl (c2_worstCell_v f x))] [] (fl_row f (198 + 4 * ((c2_worstCell_v f x).toInt.toNat)) (upd (f (198 + 4 * ((c2_worstCell_v f x).toInt.toNat))) 18 (c2_countHeldBack_j8_0 f x)), l) _
  exact fl_Tq.ret rfl rfl rfl k
noncomputable def c2_letCurrent_j26_0 (f : t2_F)  : Int32 := if (f 184 20).toInt < 0 then (1 : Int32) else (0 : Int32)
noncomputable def c2_letCurrent_m (f : t2_F) : t2_F := if (c2_areActual_v (fl_row f 181 (upd (f 181) 9 (0 : Int32))) (5 : Int32)).toInt = 0 then fl_row f 181 (upd (f 181) 9 (0 : Int32)) else (if (t2_heldTo_v (f 184 20) (-(c2_limitOf_v (fl_row f 181 (upd (f 181) 9 (0 : Int32))) (c2_letCurrent_j26_0 f))) (c2_limitOf_v (fl_row f 181 (upd (f 181) 9 (0 : Int32))) (c2_letCurrent_j26_0 f))).toInt = (f 184 20).toInt then fl_row f 181 (upd (f 181) 9 (t2_heldTo_v (f 184 20) (-(c2_limitOf_v (fl_row f 181 (upd (f 181) 9 (0 : Int32))) (c2_letCurrent_j26_0 f))) (c2_limitOf_v (fl_row f 181 (upd (f 181) 9 (0 : Int32))) (c2_letCurrent_j26_0 f)))) else c2_countHeldBack_m (fl_row f 181 (upd (f 181) 9 (t2_heldTo_v (f 184 20) (-(c2_limitOf_v (fl_row f 181 (upd (f 181) 9 (0 : Int32))) (c2_letCurrent_j26_0 f))) (c2_limitOf_v (fl_row f 181 (upd (f 181) 9 (0 : Int32))) (c2_letCurrent_j26_0 f))))) (c2_letCurrent_j26_0 f))
theorem c2_letCurrent_fr {f : t2_F}  {p : Nat} (e0 : p ≠ 181) (e1 : p ≠ 198 + 4 * ((c2_worstCell_v (fl_row f 181 (upd (f 181) 9 (t2_heldTo_v (f 184 20) (-(c2_limitOf_v (fl_row f 181 (upd (f 181) 9 (0 : Int32))) (c2_letCurrent_j26_0 f))) (c2_limitOf_v (fl_row f 181 (upd (f 181) 9 (0 : Int32))) (c2_letCurrent_j26_0 f))))) (c2_letCurrent_j26_0 f)).toInt.toNat)) : c2_letCurrent_m f p = f p := by
  unfold c2_letCurrent_m
  repeat' split
  all_goals first | rfl | (simp only [fl_row_ne e0, fl_row_ne e1, c2_countHeldBack_fr e1]; done) | (simp only [fl_row_ne e0, fl_row_ne e1, c2_countHeldBack_fr e1]; split <;> simp only [fl_row_ne e0, fl_row_ne e1, c2_countHeldBack_fr e1])
theorem c2_letCurrent_q {L : Nat} {xs : Nat → Int32} {f : t2_F} {l : t2_L} {Q : Option fl_V → fl_M → Prop}  (hc : 0 ≤ (f 181 5).toInt ∧ (f 181 5).toInt ≤ 16) (hz : 0 ≤ (f 183 6).toInt ∧ (f 183 6).toInt ≤ 6) (k : Q none (c2_letCurrent_m f, l)) : fl_Tq (pw_P L xs) 59 0 (fl_args (am_mxl (pw_P L xs) 59) [.inr (.inr (.inl (49, 181)))]) [] (f, l) Q := by
  refine fl_Tq.stp (pc' := 1) (lv' := [some (.inr (.inr (.inl (49, 181)))), none, none, none]) (st' := [.inr (.inr (.inl (49, 181)))]) (m' := (f, l)) rfl rfl (fl_bo rfl) rfl ?_
  refine fl_Tq.cI (c := (0 : Int32)) rfl (by decide +kernel) (fl_bo rfl) ?_
  refine fl_Tq.pfV (k := 9) (m' := (fl_row f 181 (upd (f 181) 9 (0 : Int32)), l)) rfl (fl_bo rfl) rfl (t2_upn rfl) ?_
  refine fl_Tq.stp (pc' := 6) (lv' := [some (.inr (.inr (.inl (49, 181)))), none, none, none]) (st' := [.inr (.inr (.inl (49, 181)))]) (m' := (fl_row f 181 (upd (f 181) 9 (0 : Int32)), l)) rfl rfl (fl_bo rfl) rfl ?_
  refine fl_Tq.cI (c := (5 : Int32)) rfl (by decide +kernel) (fl_bo rfl) ?_
  refine fl_Tq.cal rfl rfl (fl_bo rfl) rfl ?_
  refine c2_areActual_q  ?_
  show fl_Tq _ 59 10 [some (.inr (.inr (.inl (49, 181)))), none, none, none] [.inl (c2_areActual_v (fl_row f 181 (upd (f 181) 9 (0 : Int32))) (5 : Int32))] (fl_row f 181 (upd (f 181) 9 (0 : Int32)), l) _
  by_cases h1 : (c2_areActual_v (fl_row f 181 (upd (f 181) 9 (0 : Int32))) (5 : Int32)).toInt = 0
  · refine fl_Tq.zf rfl (fl_bo rfl) (c1_ne_f h1) rfl ?_
    refine fl_Tq.ret rfl rfl rfl ?_
    unfold c2_letCurrent_m at k
    simp only [if_pos h1] at k
    exact k
  · refine fl_Tq.zt rfl (fl_bo rfl) (c1_ne_t h1) rfl ?_
    refine fl_Tq.stp (pc' := 15) (lv' := [some (.inr (.inr (.inl (49, 181)))), none, none, none]) (st' := [.inr (.inr (.inl (49, 181)))]) (m' := (fl_row f 181 (upd (f 181) 9 (0 : Int32)), l)) rfl rfl (fl_bo rfl) rfl ?_
    refine fl_Tq.stp (pc' := 18) (lv' := [some (.inr (.inr (.inl (49, 181)))), none, none, none]) (st' := [.inr (.inr (.inl (51, 183)))]) (m' := (fl_row f 181 (upd (f 181) 9 (0 : Int32)), l)) rfl rfl (fl_bo rfl) rfl ?_
    refine fl_Tq.stp (pc' := 21) (lv' := [some (.inr (.inr (.inl (49, 181)))), none, none, none]) (st' := [.inr (.inr (.inl (52, 184)))]) (m' := (fl_row f 181 (upd (f 181) 9 (0 : Int32)), l)) rfl rfl (fl_bo rfl) rfl ?_
    refine fl_Tq.cB (c := (20 : Int32)) rfl (by decide +kernel) (fl_bo rfl) ?_
    refine fl_Tq.ldV (p := 184) (τ := 52) (n := 30) (z := (0, 0, 0)) (k := 20) (v := f 184 20) rfl (fl_bo rfl) rfl (by decide +kernel) (by decide) (by simp only [fl_row_ne (by decide : 184 ≠ 181)]) ?_
    refine fl_Tq.stp (pc' := 25) (lv' := [some (.inr (.inr (.inl (49, 181)))), some (.inl (f 184 20)), none, none]) (st' := []) (m' := (fl_row f 181 (upd (f 181) 9 (0 : Int32)), l)) rfl rfl (fl_bo rfl) rfl ?_
    refine fl_Tq.stp (pc' := 26) (lv' := [some (.inr (.inr (.inl (49, 181)))), some (.inl (f 184 20)), none, none]) (st' := [.inl (f 184 20)]) (m' := (fl_row f 181 (upd (f 181) 9 (0 : Int32)), l)) rfl rfl (fl_bo rfl) rfl ?_
    have hj83 : fl_Tq (pw_P L xs) 59 34 [some (.inr (.inr (.inl (49, 181)))), some (.inl (f 184 20)), none, none] [.inl (c2_letCurrent_j26_0 f)] (fl_row f 181 (upd (f 181) 9 (0 : Int32)), l) Q → fl_Tq (pw_P L xs) 59 26 [some (.inr (.inr (.inl (49, 181)))), some (.inl (f 184 20)), none, none] [.inl (f 184 20)] (fl_row f 181 (upd (f 181) 9 (0 : Int32)), l) Q := by
      intro hJ
      by_cases h2 : (f 184 20).toInt < 0
      · refine fl_Tq.zf rfl (fl_bo rfl) (c1_ge_f h2) rfl ?_
        refine fl_Tq.cI (c := (1 : Int32)) rfl (by decide +kernel) (fl_bo rfl) ?_
        refine fl_Tq.stp (pc' := 34) (lv' := [some (.inr (.inr (.inl (49, 181)))), some (.inl (f 184 20)), none, none]) (st' := [.inl (1 : Int32)]) (m' := (fl_row f 181 (upd (f 181) 9 (0 : Int32)), l)) rfl rfl (fl_bo rfl) rfl ?_
        have e0 : (c2_letCurrent_j26_0 f) = (1 : Int32) := by simp only [c2_letCurrent_j26_0, if_pos h2]
        rw [e0] at hJ
        exact hJ
      · refine fl_Tq.zt rfl (fl_bo rfl) (c1_ge_t h2) rfl ?_
        refine fl_Tq.cI (c := (0 : Int32)) rfl (by decide +kernel) (fl_bo rfl) ?_
        have e0 : (c2_letCurrent_j26_0 f) = (0 : Int32) := by simp only [c2_letCurrent_j26_0, if_neg h2]
        rw [e0] at hJ
        exact hJ
    refine hj83 ?_
    show fl_Tq _ 59 34 [some (.inr (.inr (.inl (49, 181)))), some (.inl (f 184 20)), none, none] [.inl (c2_letCurrent_j26_0 f)] (fl_row f 181 (upd (f 181) 9 (0 : Int32)), l) _
    refine fl_Tq.stp (pc' := 35) (lv' := [some (.inr (.inr (.inl (49, 181)))), some (.inl (f 184 20)), some (.inl (c2_letCurrent_j26_0 f)), none]) (st' := []) (m' := (fl_row f 181 (upd (f 181) 9 (0 : Int32)), l)) rfl rfl (fl_bo rfl) rfl ?_
    refine fl_Tq.stp (pc' := 36) (lv' := [some (.inr (.inr (.inl (49, 181)))), some (.inl (f 184 20)), some (.inl (c2_letCurrent_j26_0 f)), none]) (st' := [.inr (.inr (.inl (49, 181)))]) (m' := (fl_row f 181 (upd (f 181) 9 (0 : Int32)), l)) rfl rfl (fl_bo rfl) rfl ?_
    refine fl_Tq.stp (pc' := 37) (lv' := [some (.inr (.inr (.inl (49, 181)))), some (.inl (f 184 20)), some (.inl (c2_letCurrent_j26_0 f)), none]) (st' := [.inl (c2_letCurrent_j26_0 f), .inr (.inr (.inl (49, 181)))]) (m' := (fl_row f 181 (upd (f 181) 9 (0 : Int32)), l)) rfl rfl (fl_bo rfl) rfl ?_
    refine fl_Tq.cal rfl rfl (fl_bo rfl) rfl ?_
    refine c2_limitOf_q (by simp only [fl_row_self, upd_ne (by decide : 5 ≠ 9)]; exact hc) (by simp only [fl_row_ne (by decide : 183 ≠ 181)]; exact hz) ?_
    show fl_Tq _ 59 40 [some (.inr (.inr (.inl (49, 181)))), some (.inl (f 184 20)), some (.inl (c2_letCurrent_j26_0 f)), none] [.inl (c2_limitOf_v (fl_row f 181 (upd (f 181) 9 (0 : Int32))) (c2_letCurrent_j26_0 f))] (fl_row f 181 (upd (f 181) 9 (0 : Int32)), l) _
    refine fl_Tq.stp (pc' := 41) (lv' := [some (.inr (.inr (.inl (49, 181)))), some (.inl (f 184 20)), some (.inl (c2_letCurrent_j26_0 f)), some (.inl (c2_limitOf_v (fl_row f 181 (upd (f 181) 9 (0 : Int32))) (c2_letCurrent_j26_0 f)))]) (st' := []) (m' := (fl_row f 181 (upd (f 181) 9 (0 : Int32)), l)) rfl rfl (fl_bo rfl) rfl ?_
    refine fl_Tq.stp (pc' := 42) (lv' := [some (.inr (.inr (.inl (49, 181)))), some (.inl (f 184 20)), some (.inl (c2_letCurrent_j26_0 f)), some (.inl (c2_limitOf_v (fl_row f 181 (upd (f 181) 9 (0 : Int32))) (c2_letCurrent_j26_0 f)))]) (st' := [.inr (.inr (.inl (49, 181)))]) (m' := (fl_row f 181 (upd (f 181) 9 (0 : Int32)), l)) rfl rfl (fl_bo rfl) rfl ?_
    refine fl_Tq.stp (pc' := 43) (lv' := [some (.inr (.inr (.inl (49, 181)))), some (.inl (f 184 20)), some (.inl (c2_letCurrent_j26_0 f)), some (.inl (c2_limitOf_v (fl_row f 181 (upd (f 181) 9 (0 : Int32))) (c2_letCurrent_j26_0 f)))]) (st' := [.inl (f 184 20), .inr (.inr (.inl (49, 181)))]) (m' := (fl_row f 181 (upd (f 181) 9 (0 : Int32)), l)) rfl rfl (fl_bo rfl) rfl ?_
    refine fl_Tq.stp (pc' := 44) (lv' := [some (.inr (.inr (.inl (49, 181)))), some (.inl (f 184 20)), some (.inl (c2_letCurrent_j26_0 f)), some (.inl (c2_limitOf_v (fl_row f 181 (upd (f 181) 9 (0 : Int32))) (c2_letCurrent_j26_0 f)))]) (st' := [.inl (c2_limitOf_v (fl_row f 181 (upd (f 181) 9 (0 : Int32))) (c2_letCurrent_j26_0 f)), .inl (f 184 20), .inr (.inr (.inl (49, 181)))]) (m' := (fl_row f 181 (upd (f 181) 9 (0 : Int32)), l)) rfl rfl (fl_bo rfl) rfl ?_
    refine fl_Tq.stp (pc' := 45) (lv' := [some (.inr (.inr (.inl (49, 181)))), some (.inl (f 184 20)), some (.inl (c2_letCurrent_j26_0 f)), some (.inl (c2_limitOf_v (fl_row f 181 (upd (f 181) 9 (0 : Int32))) (c2_letCurrent_j26_0 f)))]) (st' := [.inl (-(c2_limitOf_v (fl_row f 181 (upd (f 181) 9 (0 : Int32))) (c2_letCurrent_j26_0 f))), .inl (f 184 20), .inr (.inr (.inl (49, 181)))]) (m' := (fl_row f 181 (upd (f 181) 9 (0 : Int32)), l)) rfl rfl (fl_bo rfl) rfl ?_
    refine fl_Tq.stp (pc' := 46) (lv' := [some (.inr (.inr (.inl (49, 181)))), some (.inl (f 184 20)), some (.inl (c2_letCurrent_j26_0 f)), some (.inl (c2_limitOf_v (fl_row f 181 (upd (f 181) 9 (0 : Int32))) (c2_letCurrent_j26_0 f)))]) (st' := [.inl (c2_limitOf_v (fl_row f 181 (upd (f 181) 9 (0 : Int32))) (c2_letCurrent_j26_0 f)), .inl (-(c2_limitOf_v (fl_row f 181 (upd (f 181) 9 (0 : Int32))) (c2_letCurrent_j26_0 f))), .inl (f 184 20), .inr (.inr (.inl (49, 181)))]) (m' := (fl_row f 181 (upd (f 181) 9 (0 : Int32)), l)) rfl rfl (fl_bo rfl) rfl ?_
    refine fl_Tq.cal rfl rfl (fl_bo rfl) rfl ?_
    refine t2_heldTo_q  ?_
    show fl_Tq _ 59 49 [some (.inr (.inr (.inl (49, 181)))), some (.inl (f 184 20)), some (.inl (c2_letCurrent_j26_0 f)), some (.inl (c2_limitOf_v (fl_row f 181 (upd (f 181) 9 (0 : Int32))) (c2_letCurrent_j26_0 f)))] [.inl (t2_heldTo_v (f 184 20) (-(c2_limitOf_v (fl_row f 181 (upd (f 181) 9 (0 : Int32))) (c2_letCurrent_j26_0 f))) (c2_limitOf_v (fl_row f 181 (upd (f 181) 9 (0 : Int32))) (c2_letCurrent_j26_0 f))), .inr (.inr (.inl (49, 181)))] (fl_row f 181 (upd (f 181) 9 (0 : Int32)), l) _
    refine fl_Tq.pfV (k := 9) (m' := (fl_row f 181 (upd (f 181) 9 (t2_heldTo_v (f 184 20) (-(c2_limitOf_v (fl_row f 181 (upd (f 181) 9 (0 : Int32))) (c2_letCurrent_j26_0 f))) (c2_limitOf_v (fl_row f 181 (upd (f 181) 9 (0 : Int32))) (c2_letCurrent_j26_0 f)))), l)) rfl (fl_bo rfl) rfl (t2_upo) ?_
    refine fl_Tq.stp (pc' := 53) (lv' := [some (.inr (.inr (.inl (49, 181)))), some (.inl (f 184 20)), some (.inl (c2_letCurrent_j26_0 f)), some (.inl (c2_limitOf_v (fl_row f 181 (upd (f 181) 9 (0 : Int32))) (c2_letCurrent_j26_0 f)))]) (st' := [.inr (.inr (.inl (49, 181)))]) (m' := (fl_row f 181 (upd (f 181) 9 (t2_heldTo_v (f 184 20) (-(c2_limitOf_v (fl_row f 181 (upd (f 181) 9 (0 : Int32))) (c2_letCurrent_j26_0 f))) (c2_limitOf_v (fl_row f 181 (upd (f 181) 9 (0 : Int32))) (c2_letCurrent_j26_0 f)))), l)) rfl rfl (fl_bo rfl) rfl ?_
    refine fl_Tq.gfV (k := 9) (v := t2_heldTo_v (f 184 20) (-(c2_limitOf_v (fl_row f 181 (upd (f 181) 9 (0 : Int32))) (c2_letCurrent_j26_0 f))) (c2_limitOf_v (fl_row f 181 (upd (f 181) 9 (0 : Int32))) (c2_letCurrent_j26_0 f))) rfl (fl_bo rfl) rfl (by simp only [fl_row_self, upd_self]) ?_
    refine fl_Tq.stp (pc' := 57) (lv' := [some (.inr (.inr (.inl (49, 181)))), some (.inl (f 184 20)), some (.inl (c2_letCurrent_j26_0 f)), some (.inl (c2_limitOf_v (fl_row f 181 (upd (f 181) 9 (0 : Int32))) (c2_letCurrent_j26_0 f)))]) (st' := [.inl (f 184 20), .inl (t2_heldTo_v (f 184 20) (-(c2_limitOf_v (fl_row f 181 (upd (f 181) 9 (0 : Int32))) (c2_letCurrent_j26_0 f))) (c2_limitOf_v (fl_row f 181 (upd (f 181) 9 (0 : Int32))) (c2_letCurrent_j26_0 f)))]) (m' := (fl_row f 181 (upd (f 181) 9 (t2_heldTo_v (f 184 20) (-(c2_limitOf_v (fl_row f 181 (upd (f 181) 9 (0 : Int32))) (c2_letCurrent_j26_0 f))) (c2_limitOf_v (fl_row f 181 (upd (f 181) 9 (0 : Int32))) (c2_letCurrent_j26_0 f)))), l)) rfl rfl (fl_bo rfl) rfl ?_
    have hj84 : fl_Tq (pw_P L xs) 59 65 [some (.inr (.inr (.inl (49, 181)))), some (.inl (f 184 20)), some (.inl (c2_letCurrent_j26_0 f)), some (.inl (c2_limitOf_v (fl_row f 181 (upd (f 181) 9 (0 : Int32))) (c2_letCurrent_j26_0 f)))] [] (if (t2_heldTo_v (f 184 20) (-(c2_limitOf_v (fl_row f 181 (upd (f 181) 9 (0 : Int32))) (c2_letCurrent_j26_0 f))) (c2_limitOf_v (fl_row f 181 (upd (f 181) 9 (0 : Int32))) (c2_letCurrent_j26_0 f))).toInt = (f 184 20).toInt then fl_row f 181 (upd (f 181) 9 (t2_heldTo_v (f 184 20) (-(c2_limitOf_v (fl_row f 181 (upd (f 181) 9 (0 : Int32))) (c2_letCurrent_j26_0 f))) (c2_limitOf_v (fl_row f 181 (upd (f 181) 9 (0 : Int32))) (c2_letCurrent_j26_0 f)))) else c2_countHeldBack_m (fl_row f 181 (upd (f 181) 9 (t2_heldTo_v (f 184 20) (-(c2_limitOf_v (fl_row f 181 (upd (f 181) 9 (0 : Int32))) (c2_letCurrent_j26_0 f))) (c2_limitOf_v (fl_row f 181 (upd (f 181) 9 (0 : Int32))) (c2_letCurrent_j26_0 f))))) (c2_letCurrent_j26_0 f), l) Q → fl_Tq (pw_P L xs) 59 57 [some (.inr (.inr (.inl (49, 181)))), some (.inl (f 184 20)), some (.inl (c2_letCurrent_j26_0 f)), some (.inl (c2_limitOf_v (fl_row f 181 (upd (f 181) 9 (0 : Int32))) (c2_letCurrent_j26_0 f)))] [.inl (f 184 20), .inl (t2_heldTo_v (f 184 20) (-(c2_limitOf_v (fl_row f 181 (upd (f 181) 9 (0 : Int32))) (c2_letCurrent_j26_0 f))) (c2_limitOf_v (fl_row f 181 (upd (f 181) 9 (0 : Int32))) (c2_letCurrent_j26_0 f)))] (fl_row f 181 (upd (f 181) 9 (t2_heldTo_v (f 184 20) (-(c2_limitOf_v (fl_row f 181 (upd (f 181) 9 (0 : Int32))) (c2_letCurrent_j26_0 f))) (c2_limitOf_v (fl_row f 181 (upd (f 181) 9 (0 : Int32))) (c2_letCurrent_j26_0 f)))), l) Q := by
      intro hJ
      by_cases h3 : (t2_heldTo_v (f 184 20) (-(c2_limitOf_v (fl_row f 181 (upd (f 181) 9 (0 : Int32))) (c2_letCurrent_j26_0 f))) (c2_limitOf_v (fl_row f 181 (upd (f 181) 9 (0 : Int32))) (c2_letCurrent_j26_0 f))).toInt = (f 184 20).toInt
      · refine fl_Tq.jt rfl (fl_bo rfl) (c2_eq_t h3) rfl ?_
        have e0 : (if (t2_heldTo_v (f 184 20) (-(c2_limitOf_v (fl_row f 181 (upd (f 181) 9 (0 : Int32))) (c2_letCurrent_j26_0 f))) (c2_limitOf_v (fl_row f 181 (upd (f 181) 9 (0 : Int32))) (c2_letCurrent_j26_0 f))).toInt = (f 184 20).toInt then fl_row f 181 (upd (f 181) 9 (t2_heldTo_v (f 184 20) (-(c2_limitOf_v (fl_row f 181 (upd (f 181) 9 (0 : Int32))) (c2_letCurrent_j26_0 f))) (c2_limitOf_v (fl_row f 181 (upd (f 181) 9 (0 : Int32))) (c2_letCurrent_j26_0 f)))) else c2_countHeldBack_m (fl_row f 181 (upd (f 181) 9 (t2_heldTo_v (f 184 20) (-(c2_limitOf_v (fl_row f 181 (upd (f 181) 9 (0 : Int32))) (c2_letCurrent_j26_0 f))) (c2_limitOf_v (fl_row f 181 (upd (f 181) 9 (0 : Int32))) (c2_letCurrent_j26_0 f))))) (c2_letCurrent_j26_0 f)) = fl_row f 181 (upd (f 181) 9 (t2_heldTo_v (f 184 20) (-(c2_limitOf_v (fl_row f 181 (upd (f 181) 9 (0 : Int32))) (c2_letCurrent_j26_0 f))) (c2_limitOf_v (fl_row f 181 (upd (f 181) 9 (0 : Int32))) (c2_letCurrent_j26_0 f)))) := by simp only [if_pos h3]
        rw [e0] at hJ
        exact hJ
      · refine fl_Tq.jf rfl (fl_bo rfl) (c2_eq_f h3) rfl ?_
        refine fl_Tq.stp (pc' := 61) (lv' := [some (.inr (.inr (.inl (49, 181)))), some (.inl (f 184 20)), some (.inl (c2_letCurrent_j26_0 f)), some (.inl (c2_limitOf_v (fl_row f 181 (upd (f 181) 9 (0 : Int32))) (c2_letCurrent_j26_0 f)))]) (st' := [.inr (.inr (.inl (49, 181)))]) (m' := (fl_row f 181 (upd (f 181) 9 (t2_heldTo_v (f 184 20) (-(c2_limitOf_v (fl_row f 181 (upd (f 181) 9 (0 : Int32))) (c2_letCurrent_j26_0 f))) (c2_limitOf_v (fl_row f 181 (upd (f 181) 9 (0 : Int32))) (c2_letCurrent_j26_0 f)))), l)) rfl rfl (fl_bo rfl) rfl ?_
        refine fl_Tq.stp (pc' := 62) (lv' := [some (.inr (.inr (.inl (49, 181)))), some (.inl (f 184 20)), some (.inl (c2_letCurrent_j26_0 f)), some (.inl (c2_limitOf_v (fl_row f 181 (upd (f 181) 9 (0 : Int32))) (c2_letCurrent_j26_0 f)))]) (st' := [.inl (c2_letCurrent_j26_0 f), .inr (.inr (.inl (49, 181)))]) (m' := (fl_row f 181 (upd (f 181) 9 (t2_heldTo_v (f 184 20) (-(c2_limitOf_v (fl_row f 181 (upd (f 181) 9 (0 : Int32))) (c2_letCurrent_j26_0 f))) (c2_limitOf_v (fl_row f 181 (upd (f 181) 9 (0 : Int32))) (c2_letCurrent_j26_0 f)))), l)) rfl rfl (fl_bo rfl) rfl ?_
        refine fl_Tq.cal rfl rfl (fl_bo rfl) rfl ?_
        refine c2_countHeldBack_q (by simp only [fl_row_self, upd_ne (by decide : 5 ≠ 9)]; exact hc) (by simp only [fl_row_ne (by decide : 183 ≠ 181)]; exact hz) ?_
        show fl_Tq _ 59 65 [some (.inr (.inr (.inl (49, 181)))), some (.inl (f 184 20)), some (.inl (c2_letCurrent_j26_0 f)), some (.inl (c2_limitOf_v (fl_row f 181 (upd (f 181) 9 (0 : Int32))) (c2_letCurrent_j26_0 f)))] [] (c2_countHeldBack_m (fl_row f 181 (upd (f 181) 9 (t2_heldTo_v (f 184 20) (-(c2_limitOf_v (fl_row f 181 (upd (f 181) 9 (0 : Int32))) (c2_letCurrent_j26_0 f))) (c2_limitOf_v (fl_row f 181 (upd (f 181) 9 (0 : Int32))) (c2_letCurrent_j26_0 f))))) (c2_letCurrent_j26_0 f), l) _
        have e0 : (if (t2_heldTo_v (f 184 20) (-(c2_limitOf_v (fl_row f 181 (upd (f 181) 9 (0 : Int32))) (c2_letCurrent_j26_0 f))) (c2_limitOf_v (fl_row f 181 (upd (f 181) 9 (0 : Int32))) (c2_letCurrent_j26_0 f))).toInt = (f 184 20).toInt then fl_row f 181 (upd (f 181) 9 (t2_heldTo_v (f 184 20) (-(c2_limitOf_v (fl_row f 181 (upd (f 181) 9 (0 : Int32))) (c2_letCurrent_j26_0 f))) (c2_limitOf_v (fl_row f 181 (upd (f 181) 9 (0 : Int32))) (c2_letCurrent_j26_0 f)))) else c2_countHeldBack_m (fl_row f 181 (upd (f 181) 9 (t2_heldTo_v (f 184 20) (-(c2_limitOf_v (fl_row f 181 (upd (f 181) 9 (0 : Int32))) (c2_letCurrent_j26_0 f))) (c2_limitOf_v (fl_row f 181 (upd (f 181) 9 (0 : Int32))) (c2_letCurrent_j26_0 f))))) (c2_letCurrent_j26_0 f)) = c2_countHeldBack_m (fl_row f 181 (upd (f 181) 9 (t2_heldTo_v (f 184 20) (-(c2_limitOf_v (fl_row f 181 (upd (f 181) 9 (0 : Int32))) (c2_letCurrent_j26_0 f))) (c2_limitOf_v (fl_row f 181 (upd (f 181) 9 (0 : Int32))) (c2_letCurrent_j26_0 f))))) (c2_letCurrent_j26_0 f) := by simp only [if_neg h3]
        rw [e0] at hJ
        exact hJ
    refine hj84 ?_
    show fl_Tq _ 59 65 [some (.inr (.inr (.inl (49, 181)))), some (.inl (f 184 20)), some (.inl (c2_letCurrent_j26_0 f)), some (.inl (c2_limitOf_v (fl_row f 181 (upd (f 181) 9 (0 : Int32))) (c2_letCurrent_j26_0 f)))] [] (if (t2_heldTo_v (f 184 20) (-(c2_limitOf_v (fl_row f 181 (upd (f 181) 9 (0 : Int32))) (c2_letCurrent_j26_0 f))) (c2_limitOf_v (fl_row f 181 (upd (f 181) 9 (0 : Int32))) (c2_letCurrent_j26_0 f))).toInt = (f 184 20).toInt then fl_row f 181 (upd (f 181) 9 (t2_heldTo_v (f 184 20) (-(c2_limitOf_v (fl_row f 181 (upd (f 181) 9 (0 : Int32))) (c2_letCurrent_j26_0 f))) (c2_limitOf_v (fl_row f 181 (upd (f 181) 9 (0 : Int32))) (c2_letCurrent_j26_0 f)))) else c2_countHeldBack_m (fl_row f 181 (upd (f 181) 9 (t2_heldTo_v (f 184 20) (-(c2_limitOf_v (fl_row f 181 (upd (f 181) 9 (0 : Int32))) (c2_letCurrent_j26_0 f))) (c2_limitOf_v (fl_row f 181 (upd (f 181) 9 (0 : Int32))) (c2_letCurrent_j26_0 f))))) (c2_letCurrent_j26_0 f), l) _
    refine fl_Tq.ret rfl rfl rfl ?_
    unfold c2_letCurrent_m at k
    simp only [if_neg h1] at k
    exact k

end

/-! 91.11.g6a.lean.txt -/
section
noncomputable def c0_bplace_j12_0 (f : t2_F) (x : Int32) : Int32 := if ((f 13 2) + x).toInt < (f 13 0).toInt then (f 13 2) + x else ((f 13 2) + x) - (f 13 0)
noncomputable def c0_bplace_v (f : t2_F) (x : Int32) : Int32 := c0_bplace_j12_0 f x
theorem c0_bplace_q {L : Nat} {xs : Nat → Int32} {f : t2_F} {l : t2_L} {Q : Option fl_V → fl_M → Prop} {x : Int32}  (k : Q (some (.inl (c0_bplace_v f x))) (f, l)) : fl_Tq (pw_P L xs) 29 0 (fl_args (am_mxl (pw_P L xs) 29) [.inr (.inr (.inl (13, 13))), .inl x]) [] (f, l) Q := by
  refine fl_Tq.stp (pc' := 1) (lv' := [some (.inr (.inr (.inl (13, 13)))), some (.inl x), none]) (st' := [.inr (.inr (.inl (13, 13)))]) (m' := (f, l)) rfl rfl (fl_bo rfl) rfl ?_
  refine fl_Tq.gfV (k := 2) (v := f 13 2) rfl (fl_bo rfl) rfl rfl ?_
  refine fl_Tq.stp (pc' := 5) (lv' := [some (.inr (.inr (.inl (13, 13)))), some (.inl x), none]) (st' := [.inl x, .inl (f 13 2)]) (m' := (f, l)) rfl rfl (fl_bo rfl) rfl ?_
  refine fl_Tq.stp (pc' := 6) (lv' := [some (.inr (.inr (.inl (13, 13)))), some (.inl x), none]) (st' := [.inl ((f 13 2) + x)]) (m' := (f, l)) rfl rfl (fl_bo rfl) rfl ?_
  refine fl_Tq.stp (pc' := 7) (lv' := [some (.inr (.inr (.inl (13, 13)))), some (.inl x), some (.inl ((f 13 2) + x))]) (st' := []) (m' := (f, l)) rfl rfl (fl_bo rfl) rfl ?_
  refine fl_Tq.stp (pc' := 8) (lv' := [some (.inr (.inr (.inl (13, 13)))), some (.inl x), some (.inl ((f 13 2) + x))]) (st' := [.inl ((f 13 2) + x)]) (m' := (f, l)) rfl rfl (fl_bo rfl) rfl ?_
  refine fl_Tq.stp (pc' := 9) (lv' := [some (.inr (.inr (.inl (13, 13)))), some (.inl x), some (.inl ((f 13 2) + x))]) (st' := [.inr (.inr (.inl (13, 13))), .inl ((f 13 2) + x)]) (m' := (f, l)) rfl rfl (fl_bo rfl) rfl ?_
  refine fl_Tq.gfV (k := 0) (v := f 13 0) rfl (fl_bo rfl) rfl rfl ?_
  have hj86 : fl_Tq (pw_P L xs) 29 25 [some (.inr (.inr (.inl (13, 13)))), some (.inl x), some (.inl ((f 13 2) + x))] [.inl (c0_bplace_j12_0 f x)] (f, l) Q → fl_Tq (pw_P L xs) 29 12 [some (.inr (.inr (.inl (13, 13)))), some (.inl x), some (.inl ((f 13 2) + x))] [.inl (f 13 0), .inl ((f 13 2) + x)] (f, l) Q := by
    intro hJ
    by_cases h1 : ((f 13 2) + x).toInt < (f 13 0).toInt
    · refine fl_Tq.jt rfl (fl_bo rfl) (c2_lt_t h1) rfl ?_
      refine fl_Tq.stp (pc' := 25) (lv' := [some (.inr (.inr (.inl (13, 13)))), some (.inl x), some (.inl ((f 13 2) + x))]) (st' := [.inl ((f 13 2) + x)]) (m' := (f, l)) rfl rfl (fl_bo rfl) rfl ?_
      have e0 : (c0_bplace_j12_0 f x) = (f 13 2) + x := by simp only [c0_bplace_j12_0, if_pos h1]
      rw [e0] at hJ
      exact hJ
    · refine fl_Tq.jf rfl (fl_bo rfl) (c2_lt_f h1) rfl ?_
      refine fl_Tq.stp (pc' := 16) (lv' := [some (.inr (.inr (.inl (13, 13)))), some (.inl x), some (.inl ((f 13 2) + x))]) (st' := [.inl ((f 13 2) + x)]) (m' := (f, l)) rfl rfl (fl_bo rfl) rfl ?_
      refine fl_Tq.stp (pc' := 17) (lv' := [some (.inr (.inr (.inl (13, 13)))), some (.inl x), some (.inl ((f 13 2) + x))]) (st' := [.inr (.inr (.inl (13, 13))), .inl ((f 13 2) + x)]) (m' := (f, l)) rfl rfl (fl_bo rfl) rfl ?_
      refine fl_Tq.gfV (k := 0) (v := f 13 0) rfl (fl_bo rfl) rfl rfl ?_
      refine fl_Tq.stp (pc' := 21) (lv' := [some (.inr (.inr (.inl (13, 13)))), some (.inl x), some (.inl ((f 13 2) + x))]) (st' := [.inl (((f 13 2) + x) - (f 13 0))]) (m' := (f, l)) rfl rfl (fl_bo rfl) rfl ?_
      refine fl_Tq.stp (pc' := 25) (lv' := [some (.inr (.inr (.inl (13, 13)))), some (.inl x), some (.inl ((f 13 2) + x))]) (st' := [.inl (((f 13 2) + x) - (f 13 0))]) (m' := (f, l)) rfl rfl (fl_bo rfl) rfl ?_
      have e0 : (c0_bplace_j12_0 f x) = ((f 13 2) + x) - (f 13 0) := by simp only [c0_bplace_j12_0, if_neg h1]
      rw [e0] at hJ
      exact hJ
  refine hj86 ?_
  show fl_Tq _ 29 25 [some (.inr (.inr (.inl (13, 13)))), some (.inl x), some (.inl ((f 13 2) + x))] [.inl (c0_bplace_j12_0 f x)] (f, l) _
  exact fl_Tq.ret rfl rfl rfl k
theorem c0_bplace_b {f : t2_F} {x : Int32} (hl : f 13 0 = (24 : Int32) ∧ (0 ≤ (f 13 2).toInt ∧ (f 13 2).toInt ≤ 23) ∧ (0 ≤ (f 13 3).toInt ∧ (f 13 3).toInt ≤ 24)) (hx : 0 ≤ x.toInt ∧ x.toInt ≤ 24) : 0 ≤ (c0_bplace_v f x).toInt ∧ (c0_bplace_v f x).toInt ≤ 23 := by
  have e : (24 : Int32).toInt = 24 := by decide +kernel
  obtain ⟨h1, h2, h3⟩ := hl
  have e2 : (f 13 2 + x).toInt = (f 13 2).toInt + x.toInt := at_add32 (by omega) (by omega)
  unfold c0_bplace_v c0_bplace_j12_0
  rw [h1]
  split
  · omega
  · rename_i h
    rw [at_sub32 (by omega) (by omega)]
    omega
noncomputable def c0_badd_j48_0 (f : t2_F) (x y z : Int32) : Int32 := if (f 13 3).toInt < (f 13 0).toInt then (f 13 3) + (1 : Int32) else f 13 3
noncomputable def c0_badd_j48_1 (f : t2_F) (x y z : Int32) : Int32 := if (f 13 3).toInt < (f 13 0).toInt then f 13 2 else c0_bplace_v (fl_row f 14 (upd (upd (upd (f 14) ((c0_bplace_v f (f 13 3)).toInt.toNat * 3) x) ((c0_bplace_v f (f 13 3)).toInt.toNat * 3 + 1) y) ((c0_bplace_v f (f 13 3)).toInt.toNat * 3 + 2) z)) (1 : Int32)
noncomputable def c0_badd_m (f : t2_F) (x y z : Int32) : t2_F := fl_row (fl_row f 14 (upd (upd (upd (f 14) ((c0_bplace_v f (f 13 3)).toInt.toNat * 3) x) ((c0_bplace_v f (f 13 3)).toInt.toNat * 3 + 1) y) ((c0_bplace_v f (f 13 3)).toInt.toNat * 3 + 2) z)) 13 (upd (upd (f 13) 3 (c0_badd_j48_0 f x y z)) 2 (c0_badd_j48_1 f x y z))
theorem c0_badd_fr {f : t2_F} {x y z : Int32} {p : Nat} (e0 : p ≠ 14) (e1 : p ≠ 13) : c0_badd_m f x y z p = f p := by
  unfold c0_badd_m
  repeat' split
  all_goals first | rfl | simp only [fl_row_ne e0, fl_row_ne e1]
theorem c0_badd_q {L : Nat} {xs : Nat → Int32} {f : t2_F} {l : t2_L} {Q : Option fl_V → fl_M → Prop} {x y z : Int32} (hl : f 13 0 = (24 : Int32) ∧ (0 ≤ (f 13 2).toInt ∧ (f 13 2).toInt ≤ 23) ∧ (0 ≤ (f 13 3).toInt ∧ (f 13 3).toInt ≤ 24)) (k : Q none (c0_badd_m f x y z, l)) : fl_Tq (pw_P L xs) 27 0 (fl_args (am_mxl (pw_P L xs) 27) [.inr (.inr (.inl (13, 13))), .inl x, .inl y, .inl z]) [] (f, l) Q := by
  refine fl_Tq.stp (pc' := 1) (lv' := [some (.inr (.inr (.inl (13, 13)))), some (.inl x), some (.inl y), some (.inl z), none]) (st' := [.inr (.inr (.inl (13, 13)))]) (m' := (f, l)) rfl rfl (fl_bo rfl) rfl ?_
  refine fl_Tq.stp (pc' := 2) (lv' := [some (.inr (.inr (.inl (13, 13)))), some (.inl x), some (.inl y), some (.inl z), none]) (st' := [.inr (.inr (.inl (13, 13))), .inr (.inr (.inl (13, 13)))]) (m' := (f, l)) rfl rfl (fl_bo rfl) rfl ?_
  refine fl_Tq.gfV (k := 3) (v := f 13 3) rfl (fl_bo rfl) rfl rfl ?_
  refine fl_Tq.cal rfl rfl (fl_bo rfl) rfl ?_
  refine c0_bplace_q  ?_
  show fl_Tq _ 27 8 [some (.inr (.inr (.inl (13, 13)))), some (.inl x), some (.inl y), some (.inl z), none] [.inl (c0_bplace_v f (f 13 3))] (f, l) _
  refine fl_Tq.cI (c := (3 : Int32)) rfl (by decide +kernel) (fl_bo rfl) ?_
  refine fl_Tq.stp (pc' := 10) (lv' := [some (.inr (.inr (.inl (13, 13)))), some (.inl x), some (.inl y), some (.inl z), none]) (st' := [.inl ((c0_bplace_v f (f 13 3)) * (3 : Int32))]) (m' := (f, l)) rfl rfl (fl_bo rfl) rfl ?_
  refine fl_Tq.stp (pc' := 12) (lv' := [some (.inr (.inr (.inl (13, 13)))), some (.inl x), some (.inl y), some (.inl z), some (.inl ((c0_bplace_v f (f 13 3)) * (3 : Int32)))]) (st' := []) (m' := (f, l)) rfl rfl (fl_bo rfl) rfl ?_
  refine fl_Tq.stp (pc' := 13) (lv' := [some (.inr (.inr (.inl (13, 13)))), some (.inl x), some (.inl y), some (.inl z), some (.inl ((c0_bplace_v f (f 13 3)) * (3 : Int32)))]) (st' := [.inr (.inr (.inl (13, 13)))]) (m' := (f, l)) rfl rfl (fl_bo rfl) rfl ?_
  refine fl_Tq.stp (pc' := 16) (lv' := [some (.inr (.inr (.inl (13, 13)))), some (.inl x), some (.inl y), some (.inl z), some (.inl ((c0_bplace_v f (f 13 3)) * (3 : Int32)))]) (st' := [.inr (.inr (.inl (14, 14)))]) (m' := (f, l)) rfl rfl (fl_bo rfl) rfl ?_
  refine fl_Tq.stp (pc' := 18) (lv' := [some (.inr (.inr (.inl (13, 13)))), some (.inl x), some (.inl y), some (.inl z), some (.inl ((c0_bplace_v f (f 13 3)) * (3 : Int32)))]) (st' := [.inl ((c0_bplace_v f (f 13 3)) * (3 : Int32)), .inr (.inr (.inl (14, 14)))]) (m' := (f, l)) rfl rfl (fl_bo rfl) rfl ?_
  refine fl_Tq.stp (pc' := 19) (lv' := [some (.inr (.inr (.inl (13, 13)))), some (.inl x), some (.inl y), some (.inl z), some (.inl ((c0_bplace_v f (f 13 3)) * (3 : Int32)))]) (st' := [.inl x, .inl ((c0_bplace_v f (f 13 3)) * (3 : Int32)), .inr (.inr (.inl (14, 14)))]) (m' := (f, l)) rfl rfl (fl_bo rfl) rfl ?_
  refine fl_Tq.svV (p := 14) (τ := 14) (n := 72) (z := (0, 0, 0)) (k := (c0_bplace_v f (f 13 3)).toInt.toNat * 3) (m' := (fl_row f 14 (upd (f 14) ((c0_bplace_v f (f 13 3)).toInt.toNat * 3) x), l)) rfl (fl_bo rfl) rfl (t2_im (have hb := (c0_bplace_b hl hl.2.2); t2_nn hb.1) (by decide +kernel) (by have hb := (c0_bplace_b hl hl.2.2); omega)) (by have hb := (c0_bplace_b hl hl.2.2); omega) (t2_upn rfl) ?_
  refine fl_Tq.stp (pc' := 21) (lv' := [some (.inr (.inr (.inl (13, 13)))), some (.inl x), some (.inl y), some (.inl z), some (.inl ((c0_bplace_v f (f 13 3)) * (3 : Int32)))]) (st' := [.inr (.inr (.inl (13, 13)))]) (m' := (fl_row f 14 (upd (f 14) ((c0_bplace_v f (f 13 3)).toInt.toNat * 3) x), l)) rfl rfl (fl_bo rfl) rfl ?_
  refine fl_Tq.stp (pc' := 24) (lv' := [some (.inr (.inr (.inl (13, 13)))), some (.inl x), some (.inl y), some (.inl z), some (.inl ((c0_bplace_v f (f 13 3)) * (3 : Int32)))]) (st' := [.inr (.inr (.inl (14, 14)))]) (m' := (fl_row f 14 (upd (f 14) ((c0_bplace_v f (f 13 3)).toInt.toNat * 3) x), l)) rfl rfl (fl_bo rfl) rfl ?_
  refine fl_Tq.stp (pc' := 26) (lv' := [some (.inr (.inr (.inl (13, 13)))), some (.inl x), some (.inl y), some (.inl z), some (.inl ((c0_bplace_v f (f 13 3)) * (3 : Int32)))]) (st' := [.inl ((c0_bplace_v f (f 13 3)) * (3 : Int32)), .inr (.inr (.inl (14, 14)))]) (m' := (fl_row f 14 (upd (f 14) ((c0_bplace_v f (f 13 3)).toInt.toNat * 3) x), l)) rfl rfl (fl_bo rfl) rfl ?_
  refine fl_Tq.cI (c := (1 : Int32)) rfl (by decide +kernel) (fl_bo rfl) ?_
  refine fl_Tq.stp (pc' := 28) (lv' := [some (.inr (.inr (.inl (13, 13)))), some (.inl x), some (.inl y), some (.inl z), some (.inl ((c0_bplace_v f (f 13 3)) * (3 : Int32)))]) (st' := [.inl (((c0_bplace_v f (f 13 3)) * (3 : Int32)) + (1 : Int32)), .inr (.inr (.inl (14, 14)))]) (m' := (fl_row f 14 (upd (f 14) ((c0_bplace_v f (f 13 3)).toInt.toNat * 3) x), l)) rfl rfl (fl_bo rfl) rfl ?_
  refine fl_Tq.stp (pc' := 29) (lv' := [some (.inr (.inr (.inl (13, 13)))), some (.inl x), some (.inl y), some (.inl z), some (.inl ((c0_bplace_v f (f 13 3)) * (3 : Int32)))]) (st' := [.inl y, .inl (((c0_bplace_v f (f 13 3)) * (3 : Int32)) + (1 : Int32)), .inr (.inr (.inl (14, 14)))]) (m' := (fl_row f 14 (upd (f 14) ((c0_bplace_v f (f 13 3)).toInt.toNat * 3) x), l)) rfl rfl (fl_bo rfl) rfl ?_
  refine fl_Tq.svV (p := 14) (τ := 14) (n := 72) (z := (0, 0, 0)) (k := (c0_bplace_v f (f 13 3)).toInt.toNat * 3 + 1) (m' := (fl_row f 14 (upd (upd (f 14) ((c0_bplace_v f (f 13 3)).toInt.toNat * 3) x) ((c0_bplace_v f (f 13 3)).toInt.toNat * 3 + 1) y), l)) rfl (fl_bo rfl) rfl (t2_ia (t2_im (have hb := (c0_bplace_b hl hl.2.2); t2_nn hb.1) (by decide +kernel) (by have hb := (c0_bplace_b hl hl.2.2); omega)) (by decide +kernel) (by have hb := (c0_bplace_b hl hl.2.2); omega)) (by have hb := (c0_bplace_b hl hl.2.2); omega) (t2_upr) ?_
  refine fl_Tq.stp (pc' := 31) (lv' := [some (.inr (.inr (.inl (13, 13)))), some (.inl x), some (.inl y), some (.inl z), some (.inl ((c0_bplace_v f (f 13 3)) * (3 : Int32)))]) (st' := [.inr (.inr (.inl (13, 13)))]) (m' := (fl_row f 14 (upd (upd (f 14) ((c0_bplace_v f (f 13 3)).toInt.toNat * 3) x) ((c0_bplace_v f (f 13 3)).toInt.toNat * 3 + 1) y), l)) rfl rfl (fl_bo rfl) rfl ?_
  refine fl_Tq.stp (pc' := 34) (lv' := [some (.inr (.inr (.inl (13, 13)))), some (.inl x), some (.inl y), some (.inl z), some (.inl ((c0_bplace_v f (f 13 3)) * (3 : Int32)))]) (st' := [.inr (.inr (.inl (14, 14)))]) (m' := (fl_row f 14 (upd (upd (f 14) ((c0_bplace_v f (f 13 3)).toInt.toNat * 3) x) ((c0_bplace_v f (f 13 3)).toInt.toNat * 3 + 1) y), l)) rfl rfl (fl_bo rfl) rfl ?_
  refine fl_Tq.stp (pc' := 36) (lv' := [some (.inr (.inr (.inl (13, 13)))), some (.inl x), some (.inl y), some (.inl z), some (.inl ((c0_bplace_v f (f 13 3)) * (3 : Int32)))]) (st' := [.inl ((c0_bplace_v f (f 13 3)) * (3 : Int32)), .inr (.inr (.inl (14, 14)))]) (m' := (fl_row f 14 (upd (upd (f 14) ((c0_bplace_v f (f 13 3)).toInt.toNat * 3) x) ((c0_bplace_v f (f 13 3)).toInt.toNat * 3 + 1) y), l)) rfl rfl (fl_bo rfl) rfl ?_
  refine fl_Tq.cI (c := (2 : Int32)) rfl (by decide +kernel) (fl_bo rfl) ?_
  refine fl_Tq.stp (pc' := 38) (lv' := [some (.inr (.inr (.inl (13, 13)))), some (.inl x), some (.inl y), some (.inl z), some (.inl ((c0_bplace_v f (f 13 3)) * (3 : Int32)))]) (st' := [.inl (((c0_bplace_v f (f 13 3)) * (3 : Int32)) + (2 : Int32)), .inr (.inr (.inl (14, 14)))]) (m' := (fl_row f 14 (upd (upd (f 14) ((c0_bplace_v f (f 13 3)).toInt.toNat * 3) x) ((c0_bplace_v f (f 13 3)).toInt.toNat * 3 + 1) y), l)) rfl rfl (fl_bo rfl) rfl ?_
  refine fl_Tq.stp (pc' := 39) (lv' := [some (.inr (.inr (.inl (13, 13)))), some (.inl x), some (.inl y), some (.inl z), some (.inl ((c0_bplace_v f (f 13 3)) * (3 : Int32)))]) (st' := [.inl z, .inl (((c0_bplace_v f (f 13 3)) * (3 : Int32)) + (2 : Int32)), .inr (.inr (.inl (14, 14)))]) (m' := (fl_row f 14 (upd (upd (f 14) ((c0_bplace_v f (f 13 3)).toInt.toNat * 3) x) ((c0_bplace_v f (f 13 3)).toInt.toNat * 3 + 1) y), l)) rfl rfl (fl_bo rfl) rfl ?_
  refine fl_Tq.svV (p := 14) (τ := 14) (n := 72) (z := (0, 0, 0)) (k := (c0_bplace_v f (f 13 3)).toInt.toNat * 3 + 2) (m' := (fl_row f 14 (upd (upd (upd (f 14) ((c0_bplace_v f (f 13 3)).toInt.toNat * 3) x) ((c0_bplace_v f (f 13 3)).toInt.toNat * 3 + 1) y) ((c0_bplace_v f (f 13 3)).toInt.toNat * 3 + 2) z), l)) rfl (fl_bo rfl) rfl (t2_ia (t2_im (have hb := (c0_bplace_b hl hl.2.2); t2_nn hb.1) (by decide +kernel) (by have hb := (c0_bplace_b hl hl.2.2); omega)) (by decide +kernel) (by have hb := (c0_bplace_b hl hl.2.2); omega)) (by have hb := (c0_bplace_b hl hl.2.2); omega) (t2_upr) ?_
  refine fl_Tq.stp (pc' := 41) (lv' := [some (.inr (.inr (.inl (13, 13)))), some (.inl x), some (.inl y), some (.inl z), some (.inl ((c0_bplace_v f (f 13 3)) * (3 : Int32)))]) (st' := [.inr (.inr (.inl (13, 13)))]) (m' := (fl_row f 14 (upd (upd (upd (f 14) ((c0_bplace_v f (f 13 3)).toInt.toNat * 3) x) ((c0_bplace_v f (f 13 3)).toInt.toNat * 3 + 1) y) ((c0_bplace_v f (f 13 3)).toInt.toNat * 3 + 2) z), l)) rfl rfl (fl_bo rfl) rfl ?_
  refine fl_Tq.gfV (k := 3) (v := f 13 3) rfl (fl_bo rfl) rfl (by simp only [fl_row_ne (by decide : 13 ≠ 14)]) ?_
  refine fl_Tq.stp (pc' := 45) (lv' := [some (.inr (.inr (.inl (13, 13)))), some (.inl x), some (.inl y), some (.inl z), some (.inl ((c0_bplace_v f (f 13 3)) * (3 : Int32)))]) (st' := [.inr (.inr (.inl (13, 13))), .inl (f 13 3)]) (m' := (fl_row f 14 (upd (upd (upd (f 14) ((c0_bplace_v f (f 13 3)).toInt.toNat * 3) x) ((c0_bplace_v f (f 13 3)).toInt.toNat * 3 + 1) y) ((c0_bplace_v f (f 13 3)).toInt.toNat * 3 + 2) z), l)) rfl rfl (fl_bo rfl) rfl ?_
  refine fl_Tq.gfV (k := 0) (v := f 13 0) rfl (fl_bo rfl) rfl (by simp only [fl_row_ne (by decide : 13 ≠ 14)]) ?_
  have hj87 : fl_Tq (pw_P L xs) 27 73 [some (.inr (.inr (.inl (13, 13)))), some (.inl x), some (.inl y), some (.inl z), some (.inl ((c0_bplace_v f (f 13 3)) * (3 : Int32)))] [] (fl_row (fl_row f 14 (upd (upd (upd (f 14) ((c0_bplace_v f (f 13 3)).toInt.toNat * 3) x) ((c0_bplace_v f (f 13 3)).toInt.toNat * 3 + 1) y) ((c0_bplace_v f (f 13 3)).toInt.toNat * 3 + 2) z)) 13 (upd (upd (f 13) 3 (c0_badd_j48_0 f x y z)) 2 (c0_badd_j48_1 f x y z)), l) Q → fl_Tq (pw_P L xs) 27 48 [some (.inr (.inr (.inl (13, 13)))), some (.inl x), some (.inl y), some (.inl z), some (.inl ((c0_bplace_v f (f 13 3)) * (3 : Int32)))] [.inl (f 13 0), .inl (f 13 3)] (fl_row f 14 (upd (upd (upd (f 14) ((c0_bplace_v f (f 13 3)).toInt.toNat * 3) x) ((c0_bplace_v f (f 13 3)).toInt.toNat * 3 + 1) y) ((c0_bplace_v f (f 13 3)).toInt.toNat * 3 + 2) z), l) Q := by
    intro hJ
    by_cases h1 : (f 13 3).toInt < (f 13 0).toInt
    · refine fl_Tq.jf rfl (fl_bo rfl) (c2_ge_f h1) rfl ?_
      refine fl_Tq.stp (pc' := 52) (lv' := [some (.inr (.inr (.inl (13, 13)))), some (.inl x), some (.inl y), some (.inl z), some (.inl ((c0_bplace_v f (f 13 3)) * (3 : Int32)))]) (st' := [.inr (.inr (.inl (13, 13)))]) (m' := (fl_row f 14 (upd (upd (upd (f 14) ((c0_bplace_v f (f 13 3)).toInt.toNat * 3) x) ((c0_bplace_v f (f 13 3)).toInt.toNat * 3 + 1) y) ((c0_bplace_v f (f 13 3)).toInt.toNat * 3 + 2) z), l)) rfl rfl (fl_bo rfl) rfl ?_
      refine fl_Tq.stp (pc' := 53) (lv' := [some (.inr (.inr (.inl (13, 13)))), some (.inl x), some (.inl y), some (.inl z), some (.inl ((c0_bplace_v f (f 13 3)) * (3 : Int32)))]) (st' := [.inr (.inr (.inl (13, 13))), .inr (.inr (.inl (13, 13)))]) (m' := (fl_row f 14 (upd (upd (upd (f 14) ((c0_bplace_v f (f 13 3)).toInt.toNat * 3) x) ((c0_bplace_v f (f 13 3)).toInt.toNat * 3 + 1) y) ((c0_bplace_v f (f 13 3)).toInt.toNat * 3 + 2) z), l)) rfl rfl (fl_bo rfl) rfl ?_
      refine fl_Tq.gfV (k := 3) (v := f 13 3) rfl (fl_bo rfl) rfl (by simp only [fl_row_ne (by decide : 13 ≠ 14)]) ?_
      refine fl_Tq.cI (c := (1 : Int32)) rfl (by decide +kernel) (fl_bo rfl) ?_
      refine fl_Tq.stp (pc' := 58) (lv' := [some (.inr (.inr (.inl (13, 13)))), some (.inl x), some (.inl y), some (.inl z), some (.inl ((c0_bplace_v f (f 13 3)) * (3 : Int32)))]) (st' := [.inl ((f 13 3) + (1 : Int32)), .inr (.inr (.inl (13, 13)))]) (m' := (fl_row f 14 (upd (upd (upd (f 14) ((c0_bplace_v f (f 13 3)).toInt.toNat * 3) x) ((c0_bplace_v f (f 13 3)).toInt.toNat * 3 + 1) y) ((c0_bplace_v f (f 13 3)).toInt.toNat * 3 + 2) z), l)) rfl rfl (fl_bo rfl) rfl ?_
      refine fl_Tq.pfV (k := 3) (m' := (fl_row (fl_row f 14 (upd (upd (upd (f 14) ((c0_bplace_v f (f 13 3)).toInt.toNat * 3) x) ((c0_bplace_v f (f 13 3)).toInt.toNat * 3 + 1) y) ((c0_bplace_v f (f 13 3)).toInt.toNat * 3 + 2) z)) 13 (upd (f 13) 3 ((f 13 3) + (1 : Int32))), l)) rfl (fl_bo rfl) rfl (t2_upn (by rw [fl_row_ne (by decide : 13 ≠ 14)])) ?_
      refine fl_Tq.stp (pc' := 73) (lv' := [some (.inr (.inr (.inl (13, 13)))), some (.inl x), some (.inl y), some (.inl z), some (.inl ((c0_bplace_v f (f 13 3)) * (3 : Int32)))]) (st' := []) (m' := (fl_row (fl_row f 14 (upd (upd (upd (f 14) ((c0_bplace_v f (f 13 3)).toInt.toNat * 3) x) ((c0_bplace_v f (f 13 3)).toInt.toNat * 3 + 1) y) ((c0_bplace_v f (f 13 3)).toInt.toNat * 3 + 2) z)) 13 (upd (f 13) 3 ((f 13 3) + (1 : Int32))), l)) rfl rfl (fl_bo rfl) rfl ?_
      have e0 : (fl_row (fl_row f 14 (upd (upd (upd (f 14) ((c0_bplace_v f (f 13 3)).toInt.toNat * 3) x) ((c0_bplace_v f (f 13 3)).toInt.toNat * 3 + 1) y) ((c0_bplace_v f (f 13 3)).toInt.toNat * 3 + 2) z)) 13 (upd (upd (f 13) 3 (c0_badd_j48_0 f x y z)) 2 (c0_badd_j48_1 f x y z))) = fl_row (fl_row f 14 (upd (upd (upd (f 14) ((c0_bplace_v f (f 13 3)).toInt.toNat * 3) x) ((c0_bplace_v f (f 13 3)).toInt.toNat * 3 + 1) y) ((c0_bplace_v f (f 13 3)).toInt.toNat * 3 + 2) z)) 13 (upd (f 13) 3 ((f 13 3) + (1 : Int32))) := by
        simp only [c0_badd_j48_0, c0_badd_j48_1, if_pos h1]
        funext q j
        simp only [fl_row, upd]
        repeat' split
        all_goals first | rfl | simp_all
      rw [e0] at hJ
      exact hJ
    · refine fl_Tq.jt rfl (fl_bo rfl) (c2_ge_t h1) rfl ?_
      refine fl_Tq.stp (pc' := 65) (lv' := [some (.inr (.inr (.inl (13, 13)))), some (.inl x), some (.inl y), some (.inl z), some (.inl ((c0_bplace_v f (f 13 3)) * (3 : Int32)))]) (st' := [.inr (.inr (.inl (13, 13)))]) (m' := (fl_row f 14 (upd (upd (upd (f 14) ((c0_bplace_v f (f 13 3)).toInt.toNat * 3) x) ((c0_bplace_v f (f 13 3)).toInt.toNat * 3 + 1) y) ((c0_bplace_v f (f 13 3)).toInt.toNat * 3 + 2) z), l)) rfl rfl (fl_bo rfl) rfl ?_
      refine fl_Tq.stp (pc' := 66) (lv' := [some (.inr (.inr (.inl (13, 13)))), some (.inl x), some (.inl y), some (.inl z), some (.inl ((c0_bplace_v f (f 13 3)) * (3 : Int32)))]) (st' := [.inr (.inr (.inl (13, 13))), .inr (.inr (.inl (13, 13)))]) (m' := (fl_row f 14 (upd (upd (upd (f 14) ((c0_bplace_v f (f 13 3)).toInt.toNat * 3) x) ((c0_bplace_v f (f 13 3)).toInt.toNat * 3 + 1) y) ((c0_bplace_v f (f 13 3)).toInt.toNat * 3 + 2) z), l)) rfl rfl (fl_bo rfl) rfl ?_
      refine fl_Tq.cI (c := (1 : Int32)) rfl (by decide +kernel) (fl_bo rfl) ?_
      refine fl_Tq.cal rfl rfl (fl_bo rfl) rfl ?_
      refine c0_bplace_q  ?_
      show fl_Tq _ 27 70 [some (.inr (.inr (.inl (13, 13)))), some (.inl x), some (.inl y), some (.inl z), some (.inl ((c0_bplace_v f (f 13 3)) * (3 : Int32)))] [.inl (c0_bplace_v (fl_row f 14 (upd (upd (upd (f 14) ((c0_bplace_v f (f 13 3)).toInt.toNat * 3) x) ((c0_bplace_v f (f 13 3)).toInt.toNat * 3 + 1) y) ((c0_bplace_v f (f 13 3)).toInt.toNat * 3 + 2) z)) (1 : Int32)), .inr (.inr (.inl (13, 13)))] (fl_row f 14 (upd (upd (upd (f 14) ((c0_bplace_v f (f 13 3)).toInt.toNat * 3) x) ((c0_bplace_v f (f 13 3)).toInt.toNat * 3 + 1) y) ((c0_bplace_v f (f 13 3)).toInt.toNat * 3 + 2) z), l) _
      refine fl_Tq.pfV (k := 2) (m' := (fl_row (fl_row f 14 (upd (upd (upd (f 14) ((c0_bplace_v f (f 13 3)).toInt.toNat * 3) x) ((c0_bplace_v f (f 13 3)).toInt.toNat * 3 + 1) y) ((c0_bplace_v f (f 13 3)).toInt.toNat * 3 + 2) z)) 13 (upd (f 13) 2 (c0_bplace_v (fl_row f 14 (upd (upd (upd (f 14) ((c0_bplace_v f (f 13 3)).toInt.toNat * 3) x) ((c0_bplace_v f (f 13 3)).toInt.toNat * 3 + 1) y) ((c0_bplace_v f (f 13 3)).toInt.toNat * 3 + 2) z)) (1 : Int32))), l)) rfl (fl_bo rfl) rfl (t2_upn (by rw [fl_row_ne (by decide : 13 ≠ 14)])) ?_
      have e0 : (fl_row (fl_row f 14 (upd (upd (upd (f 14) ((c0_bplace_v f (f 13 3)).toInt.toNat * 3) x) ((c0_bplace_v f (f 13 3)).toInt.toNat * 3 + 1) y) ((c0_bplace_v f (f 13 3)).toInt.toNat * 3 + 2) z)) 13 (upd (upd (f 13) 3 (c0_badd_j48_0 f x y z)) 2 (c0_badd_j48_1 f x y z))) = fl_row (fl_row f 14 (upd (upd (upd (f 14) ((c0_bplace_v f (f 13 3)).toInt.toNat * 3) x) ((c0_bplace_v f (f 13 3)).toInt.toNat * 3 + 1) y) ((c0_bplace_v f (f 13 3)).toInt.toNat * 3 + 2) z)) 13 (upd (f 13) 2 (c0_bplace_v (fl_row f 14 (upd (upd (upd (f 14) ((c0_bplace_v f (f 13 3)).toInt.toNat * 3) x) ((c0_bplace_v f (f 13 3)).toInt.toNat * 3 + 1) y) ((c0_bplace_v f (f 13 3)).toInt.toNat * 3 + 2) z)) (1 : Int32))) := by
        simp only [c0_badd_j48_0, c0_badd_j48_1, if_neg h1]
        funext q j
        simp only [fl_row, upd]
        repeat' split
        all_goals first | rfl | simp_all
      rw [e0] at hJ
      exact hJ
  refine hj87 ?_
  show fl_Tq _ 27 73 [some (.inr (.inr (.inl (13, 13)))), some (.inl x), some (.inl y), some (.inl z), some (.inl ((c0_bplace_v f (f 13 3)) * (3 : Int32)))] [] (fl_row (fl_row f 14 (upd (upd (upd (f 14) ((c0_bplace_v f (f 13 3)).toInt.toNat * 3) x) ((c0_bplace_v f (f 13 3)).toInt.toNat * 3 + 1) y) ((c0_bplace_v f (f 13 3)).toInt.toNat * 3 + 2) z)) 13 (upd (upd (f 13) 3 (c0_badd_j48_0 f x y z)) 2 (c0_badd_j48_1 f x y z)), l) _
  exact fl_Tq.ret rfl rfl rfl k
noncomputable def c0_tplace_j12_0 (f : t2_F) (x : Int32) : Int32 := if ((f 16 2) + x).toInt < (f 16 0).toInt then (f 16 2) + x else ((f 16 2) + x) - (f 16 0)
noncomputable def c0_tplace_v (f : t2_F) (x : Int32) : Int32 := c0_tplace_j12_0 f x
theorem c0_tplace_q {L : Nat} {xs : Nat → Int32} {f : t2_F} {l : t2_L} {Q : Option fl_V → fl_M → Prop} {x : Int32}  (k : Q (some (.inl (c0_tplace_v f x))) (f, l)) : fl_Tq (pw_P L xs) 29 0 (fl_args (am_mxl (pw_P L xs) 29) [.inr (.inr (.inl (16, 16))), .inl x]) [] (f, l) Q := by
  refine fl_Tq.stp (pc' := 1) (lv' := [some (.inr (.inr (.inl (16, 16)))), some (.inl x), none]) (st' := [.inr (.inr (.inl (16, 16)))]) (m' := (f, l)) rfl rfl (fl_bo rfl) rfl ?_
  refine fl_Tq.gfV (k := 2) (v := f 16 2) rfl (fl_bo rfl) rfl rfl ?_
  refine fl_Tq.stp (pc' := 5) (lv' := [some (.inr (.inr (.inl (16, 16)))), some (.inl x), none]) (st' := [.inl x, .inl (f 16 2)]) (m' := (f, l)) rfl rfl (fl_bo rfl) rfl ?_
  refine fl_Tq.stp (pc' := 6) (lv' := [some (.inr (.inr (.inl (16, 16)))), some (.inl x), none]) (st' := [.inl ((f 16 2) + x)]) (m' := (f, l)) rfl rfl (fl_bo rfl) rfl ?_
  refine fl_Tq.stp (pc' := 7) (lv' := [some (.inr (.inr (.inl (16, 16)))), some (.inl x), some (.inl ((f 16 2) + x))]) (st' := []) (m' := (f, l)) rfl rfl (fl_bo rfl) rfl ?_
  refine fl_Tq.stp (pc' := 8) (lv' := [some (.inr (.inr (.inl (16, 16)))), some (.inl x), some (.inl ((f 16 2) + x))]) (st' := [.inl ((f 16 2) + x)]) (m' := (f, l)) rfl rfl (fl_bo rfl) rfl ?_
  refine fl_Tq.stp (pc' := 9) (lv' := [some (.inr (.inr (.inl (16, 16)))), some (.inl x), some (.inl ((f 16 2) + x))]) (st' := [.inr (.inr (.inl (16, 16))), .inl ((f 16 2) + x)]) (m' := (f, l)) rfl rfl (fl_bo rfl) rfl ?_
  refine fl_Tq.gfV (k := 0) (v := f 16 0) rfl (fl_bo rfl) rfl rfl ?_
  have hj88 : fl_Tq (pw_P L xs) 29 25 [some (.inr (.inr (.inl (16, 16)))), some (.inl x), some (.inl ((f 16 2) + x))] [.inl (c0_tplace_j12_0 f x)] (f, l) Q → fl_Tq (pw_P L xs) 29 12 [some (.inr (.inr (.inl (16, 16)))), some (.inl x), some (.inl ((f 16 2) + x))] [.inl (f 16 0), .inl ((f 16 2) + x)] (f, l) Q := by
    intro hJ
    by_cases h1 : ((f 16 2) + x).toInt < (f 16 0).toInt
    · refine fl_Tq.jt rfl (fl_bo rfl) (c2_lt_t h1) rfl ?_
      refine fl_Tq.stp (pc' := 25) (lv' := [some (.inr (.inr (.inl (16, 16)))), some (.inl x), some (.inl ((f 16 2) + x))]) (st' := [.inl ((f 16 2) + x)]) (m' := (f, l)) rfl rfl (fl_bo rfl) rfl ?_
      have e0 : (c0_tplace_j12_0 f x) = (f 16 2) + x := by simp only [c0_tplace_j12_0, if_pos h1]
      rw [e0] at hJ
      exact hJ
    · refine fl_Tq.jf rfl (fl_bo rfl) (c2_lt_f h1) rfl ?_
      refine fl_Tq.stp (pc' := 16) (lv' := [some (.inr (.inr (.inl (16, 16)))), some (.inl x), some (.inl ((f 16 2) + x))]) (st' := [.inl ((f 16 2) + x)]) (m' := (f, l)) rfl rfl (fl_bo rfl) rfl ?_
      refine fl_Tq.stp (pc' := 17) (lv' := [some (.inr (.inr (.inl (16, 16)))), some (.inl x), some (.inl ((f 16 2) + x))]) (st' := [.inr (.inr (.inl (16, 16))), .inl ((f 16 2) + x)]) (m' := (f, l)) rfl rfl (fl_bo rfl) rfl ?_
      refine fl_Tq.gfV (k := 0) (v := f 16 0) rfl (fl_bo rfl) rfl rfl ?_
      refine fl_Tq.stp (pc' := 21) (lv' := [some (.inr (.inr (.inl (16, 16)))), some (.inl x), some (.inl ((f 16 2) + x))]) (st' := [.inl (((f 16 2) + x) - (f 16 0))]) (m' := (f, l)) rfl rfl (fl_bo rfl) rfl ?_
      refine fl_Tq.stp (pc' := 25) (lv' := [some (.inr (.inr (.inl (16, 16)))), some (.inl x), some (.inl ((f 16 2) + x))]) (st' := [.inl (((f 16 2) + x) - (f 16 0))]) (m' := (f, l)) rfl rfl (fl_bo rfl) rfl ?_
      have e0 : (c0_tplace_j12_0 f x) = ((f 16 2) + x) - (f 16 0) := by simp only [c0_tplace_j12_0, if_neg h1]
      rw [e0] at hJ
      exact hJ
  refine hj88 ?_
  show fl_Tq _ 29 25 [some (.inr (.inr (.inl (16, 16)))), some (.inl x), some (.inl ((f 16 2) + x))] [.inl (c0_tplace_j12_0 f x)] (f, l) _
  exact fl_Tq.ret rfl rfl rfl k
theorem c0_tplace_b {f : t2_F} {x : Int32} (hl : f 16 0 = (32 : Int32) ∧ (0 ≤ (f 16 2).toInt ∧ (f 16 2).toInt ≤ 31) ∧ (0 ≤ (f 16 3).toInt ∧ (f 16 3).toInt ≤ 32)) (hx : 0 ≤ x.toInt ∧ x.toInt ≤ 32) : 0 ≤ (c0_tplace_v f x).toInt ∧ (c0_tplace_v f x).toInt ≤ 31 := by
  have e : (32 : Int32).toInt = 32 := by decide +kernel
  obtain ⟨h1, h2, h3⟩ := hl
  have e2 : (f 16 2 + x).toInt = (f 16 2).toInt + x.toInt := at_add32 (by omega) (by omega)
  unfold c0_tplace_v c0_tplace_j12_0
  rw [h1]
  split
  · omega
  · rename_i h
    rw [at_sub32 (by omega) (by omega)]
    omega
noncomputable def c0_tadd_j48_0 (f : t2_F) (x y z : Int32) : Int32 := if (f 16 3).toInt < (f 16 0).toInt then (f 16 3) + (1 : Int32) else f 16 3
noncomputable def c0_tadd_j48_1 (f : t2_F) (x y z : Int32) : Int32 := if (f 16 3).toInt < (f 16 0).toInt then f 16 2 else c0_tplace_v (fl_row f 17 (upd (upd (upd (f 17) ((c0_tplace_v f (f 16 3)).toInt.toNat * 3) x) ((c0_tplace_v f (f 16 3)).toInt.toNat * 3 + 1) y) ((c0_tplace_v f (f 16 3)).toInt.toNat * 3 + 2) z)) (1 : Int32)
noncomputable def c0_tadd_m (f : t2_F) (x y z : Int32) : t2_F := fl_row (fl_row f 17 (upd (upd (upd (f 17) ((c0_tplace_v f (f 16 3)).toInt.toNat * 3) x) ((c0_tplace_v f (f 16 3)).toInt.toNat * 3 + 1) y) ((c0_tplace_v f (f 16 3)).toInt.toNat * 3 + 2) z)) 16 (upd (upd (f 16) 3 (c0_tadd_j48_0 f x y z)) 2 (c0_tadd_j48_1 f x y z))
theorem c0_tadd_fr {f : t2_F} {x y z : Int32} {p : Nat} (e0 : p ≠ 17) (e1 : p ≠ 16) : c0_tadd_m f x y z p = f p := by
  unfold c0_tadd_m
  repeat' split
  all_goals first | rfl | simp only [fl_row_ne e0, fl_row_ne e1]
theorem c0_tadd_q {L : Nat} {xs : Nat → Int32} {f : t2_F} {l : t2_L} {Q : Option fl_V → fl_M → Prop} {x y z : Int32} (hl : f 16 0 = (32 : Int32) ∧ (0 ≤ (f 16 2).toInt ∧ (f 16 2).toInt ≤ 31) ∧ (0 ≤ (f 16 3).toInt ∧ (f 16 3).toInt ≤ 32)) (k : Q none (c0_tadd_m f x y z, l)) : fl_Tq (pw_P L xs) 27 0 (fl_args (am_mxl (pw_P L xs) 27) [.inr (.inr (.inl (16, 16))), .inl x, .inl y, .inl z]) [] (f, l) Q := by
  refine fl_Tq.stp (pc' := 1) (lv' := [some (.inr (.inr (.inl (16, 16)))), some (.inl x), some (.inl y), some (.inl z), none]) (st' := [.inr (.inr (.inl (16, 16)))]) (m' := (f, l)) rfl rfl (fl_bo rfl) rfl ?_
  refine fl_Tq.stp (pc' := 2) (lv' := [some (.inr (.inr (.inl (16, 16)))), some (.inl x), some (.inl y), some (.inl z), none]) (st' := [.inr (.inr (.inl (16, 16))), .inr (.inr (.inl (16, 16)))]) (m' := (f, l)) rfl rfl (fl_bo rfl) rfl ?_
  refine fl_Tq.gfV (k := 3) (v := f 16 3) rfl (fl_bo rfl) rfl rfl ?_
  refine fl_Tq.cal rfl rfl (fl_bo rfl) rfl ?_
  refine c0_tplace_q  ?_
  show fl_Tq _ 27 8 [some (.inr (.inr (.inl (16, 16)))), some (.inl x), some (.inl y), some (.inl z), none] [.inl (c0_tplace_v f (f 16 3))] (f, l) _
  refine fl_Tq.cI (c := (3 : Int32)) rfl (by decide +kernel) (fl_bo rfl) ?_
  refine fl_Tq.stp (pc' := 10) (lv' := [some (.inr (.inr (.inl (16, 16)))), some (.inl x), some (.inl y), some (.inl z), none]) (st' := [.inl ((c0_tplace_v f (f 16 3)) * (3 : Int32))]) (m' := (f, l)) rfl rfl (fl_bo rfl) rfl ?_
  refine fl_Tq.stp (pc' := 12) (lv' := [some (.inr (.inr (.inl (16, 16)))), some (.inl x), some (.inl y), some (.inl z), some (.inl ((c0_tplace_v f (f 16 3)) * (3 : Int32)))]) (st' := []) (m' := (f, l)) rfl rfl (fl_bo rfl) rfl ?_
  refine fl_Tq.stp (pc' := 13) (lv' := [some (.inr (.inr (.inl (16, 16)))), some (.inl x), some (.inl y), some (.inl z), some (.inl ((c0_tplace_v f (f 16 3)) * (3 : Int32)))]) (st' := [.inr (.inr (.inl (16, 16)))]) (m' := (f, l)) rfl rfl (fl_bo rfl) rfl ?_
  refine fl_Tq.stp (pc' := 16) (lv' := [some (.inr (.inr (.inl (16, 16)))), some (.inl x), some (.inl y), some (.inl z), some (.inl ((c0_tplace_v f (f 16 3)) * (3 : Int32)))]) (st' := [.inr (.inr (.inl (17, 17)))]) (m' := (f, l)) rfl rfl (fl_bo rfl) rfl ?_
  refine fl_Tq.stp (pc' := 18) (lv' := [some (.inr (.inr (.inl (16, 16)))), some (.inl x), some (.inl y), some (.inl z), some (.inl ((c0_tplace_v f (f 16 3)) * (3 : Int32)))]) (st' := [.inl ((c0_tplace_v f (f 16 3)) * (3 : Int32)), .inr (.inr (.inl (17, 17)))]) (m' := (f, l)) rfl rfl (fl_bo rfl) rfl ?_
  refine fl_Tq.stp (pc' := 19) (lv' := [some (.inr (.inr (.inl (16, 16)))), some (.inl x), some (.inl y), some (.inl z), some (.inl ((c0_tplace_v f (f 16 3)) * (3 : Int32)))]) (st' := [.inl x, .inl ((c0_tplace_v f (f 16 3)) * (3 : Int32)), .inr (.inr (.inl (17, 17)))]) (m' := (f, l)) rfl rfl (fl_bo rfl) rfl ?_
  refine fl_Tq.svV (p := 17) (τ := 17) (n := 96) (z := (0, 0, 0)) (k := (c0_tplace_v f (f 16 3)).toInt.toNat * 3) (m' := (fl_row f 17 (upd (f 17) ((c0_tplace_v f (f 16 3)).toInt.toNat * 3) x), l)) rfl (fl_bo rfl) rfl (t2_im (have hb := (c0_tplace_b hl hl.2.2); t2_nn hb.1) (by decide +kernel) (by have hb := (c0_tplace_b hl hl.2.2); omega)) (by have hb := (c0_tplace_b hl hl.2.2); omega) (t2_upn rfl) ?_
  refine fl_Tq.stp (pc' := 21) (lv' := [some (.inr (.inr (.inl (16, 16)))), some (.inl x), some (.inl y), some (.inl z), some (.inl ((c0_tplace_v f (f 16 3)) * (3 : Int32)))]) (st' := [.inr (.inr (.inl (16, 16)))]) (m' := (fl_row f 17 (upd (f 17) ((c0_tplace_v f (f 16 3)).toInt.toNat * 3) x), l)) rfl rfl (fl_bo rfl) rfl ?_
  refine fl_Tq.stp (pc' := 24) (lv' := [some (.inr (.inr (.inl (16, 16)))), some (.inl x), some (.inl y), some (.inl z), some (.inl ((c0_tplace_v f (f 16 3)) * (3 : Int32)))]) (st' := [.inr (.inr (.inl (17, 17)))]) (m' := (fl_row f 17 (upd (f 17) ((c0_tplace_v f (f 16 3)).toInt.toNat * 3) x), l)) rfl rfl (fl_bo rfl) rfl ?_
  refine fl_Tq.stp (pc' := 26) (lv' := [some (.inr (.inr (.inl (16, 16)))), some (.inl x), some (.inl y), some (.inl z), some (.inl ((c0_tplace_v f (f 16 3)) * (3 : Int32)))]) (st' := [.inl ((c0_tplace_v f (f 16 3)) * (3 : Int32)), .inr (.inr (.inl (17, 17)))]) (m' := (fl_row f 17 (upd (f 17) ((c0_tplace_v f (f 16 3)).toInt.toNat * 3) x), l)) rfl rfl (fl_bo rfl) rfl ?_
  refine fl_Tq.cI (c := (1 : Int32)) rfl (by decide +kernel) (fl_bo rfl) ?_
  refine fl_Tq.stp (pc' := 28) (lv' := [some (.inr (.inr (.inl (16, 16)))), some (.inl x), some (.inl y), some (.inl z), some (.inl ((c0_tplace_v f (f 16 3)) * (3 : Int32)))]) (st' := [.inl (((c0_tplace_v f (f 16 3)) * (3 : Int32)) + (1 : Int32)), .inr (.inr (.inl (17, 17)))]) (m' := (fl_row f 17 (upd (f 17) ((c0_tplace_v f (f 16 3)).toInt.toNat * 3) x), l)) rfl rfl (fl_bo rfl) rfl ?_
  refine fl_Tq.stp (pc' := 29) (lv' := [some (.inr (.inr (.inl (16, 16)))), some (.inl x), some (.inl y), some (.inl z), some (.inl ((c0_tplace_v f (f 16 3)) * (3 : Int32)))]) (st' := [.inl y, .inl (((c0_tplace_v f (f 16 3)) * (3 : Int32)) + (1 : Int32)), .inr (.inr (.inl (17, 17)))]) (m' := (fl_row f 17 (upd (f 17) ((c0_tplace_v f (f 16 3)).toInt.toNat * 3) x), l)) rfl rfl (fl_bo rfl) rfl ?_
  refine fl_Tq.svV (p := 17) (τ := 17) (n := 96) (z := (0, 0, 0)) (k := (c0_tplace_v f (f 16 3)).toInt.toNat * 3 + 1) (m' := (fl_row f 17 (upd (upd (f 17) ((c0_tplace_v f (f 16 3)).toInt.toNat * 3) x) ((c0_tplace_v f (f 16 3)).toInt.toNat * 3 + 1) y), l)) rfl (fl_bo rfl) rfl (t2_ia (t2_im (have hb := (c0_tplace_b hl hl.2.2); t2_nn hb.1) (by decide +kernel) (by have hb := (c0_tplace_b hl hl.2.2); omega)) (by decide +kernel) (by have hb := (c0_tplace_b hl hl.2.2); omega)) (by have hb := (c0_tplace_b hl hl.2.2); omega) (t2_upr) ?_
  refine fl_Tq.stp (pc' := 31) (lv' := [some (.inr (.inr (.inl (16, 16)))), some (.inl x), some (.inl y), some (.inl z), some (.inl ((c0_tplace_v f (f 16 3)) * (3 : Int32)))]) (st' := [.inr (.inr (.inl (16, 16)))]) (m' := (fl_row f 17 (upd (upd (f 17) ((c0_tplace_v f (f 16 3)).toInt.toNat * 3) x) ((c0_tplace_v f (f 16 3)).toInt.toNat * 3 + 1) y), l)) rfl rfl (fl_bo rfl) rfl ?_
  refine fl_Tq.stp (pc' := 34) (lv' := [some (.inr (.inr (.inl (16, 16)))), some (.inl x), some (.inl y), some (.inl z), some (.inl ((c0_tplace_v f (f 16 3)) * (3 : Int32)))]) (st' := [.inr (.inr (.inl (17, 17)))]) (m' := (fl_row f 17 (upd (upd (f 17) ((c0_tplace_v f (f 16 3)).toInt.toNat * 3) x) ((c0_tplace_v f (f 16 3)).toInt.toNat * 3 + 1) y), l)) rfl rfl (fl_bo rfl) rfl ?_
  refine fl_Tq.stp (pc' := 36) (lv' := [some (.inr (.inr (.inl (16, 16)))), some (.inl x), some (.inl y), some (.inl z), some (.inl ((c0_tplace_v f (f 16 3)) * (3 : Int32)))]) (st' := [.inl ((c0_tplace_v f (f 16 3)) * (3 : Int32)), .inr (.inr (.inl (17, 17)))]) (m' := (fl_row f 17 (upd (upd (f 17) ((c0_tplace_v f (f 16 3)).toInt.toNat * 3) x) ((c0_tplace_v f (f 16 3)).toInt.toNat * 3 + 1) y), l)) rfl rfl (fl_bo rfl) rfl ?_
  refine fl_Tq.cI (c := (2 : Int32)) rfl (by decide +kernel) (fl_bo rfl) ?_
  refine fl_Tq.stp (pc' := 38) (lv' := [some (.inr (.inr (.inl (16, 16)))), some (.inl x), some (.inl y), some (.inl z), some (.inl ((c0_tplace_v f (f 16 3)) * (3 : Int32)))]) (st' := [.inl (((c0_tplace_v f (f 16 3)) * (3 : Int32)) + (2 : Int32)), .inr (.inr (.inl (17, 17)))]) (m' := (fl_row f 17 (upd (upd (f 17) ((c0_tplace_v f (f 16 3)).toInt.toNat * 3) x) ((c0_tplace_v f (f 16 3)).toInt.toNat * 3 + 1) y), l)) rfl rfl (fl_bo rfl) rfl ?_
  refine fl_Tq.stp (pc' := 39) (lv' := [some (.inr (.inr (.inl (16, 16)))), some (.inl x), some (.inl y), some (.inl z), some (.inl ((c0_tplace_v f (f 16 3)) * (3 : Int32)))]) (st' := [.inl z, .inl (((c0_tplace_v f (f 16 3)) * (3 : Int32)) + (2 : Int32)), .inr (.inr (.inl (17, 17)))]) (m' := (fl_row f 17 (upd (upd (f 17) ((c0_tplace_v f (f 16 3)).toInt.toNat * 3) x) ((c0_tplace_v f (f 16 3)).toInt.toNat * 3 + 1) y), l)) rfl rfl (fl_bo rfl) rfl ?_
  refine fl_Tq.svV (p := 17) (τ := 17) (n := 96) (z := (0, 0, 0)) (k := (c0_tplace_v f (f 16 3)).toInt.toNat * 3 + 2) (m' := (fl_row f 17 (upd (upd (upd (f 17) ((c0_tplace_v f (f 16 3)).toInt.toNat * 3) x) ((c0_tplace_v f (f 16 3)).toInt.toNat * 3 + 1) y) ((c0_tplace_v f (f 16 3)).toInt.toNat * 3 + 2) z), l)) rfl (fl_bo rfl) rfl (t2_ia (t2_im (have hb := (c0_tplace_b hl hl.2.2); t2_nn hb.1) (by decide +kernel) (by have hb := (c0_tplace_b hl hl.2.2); omega)) (by decide +kernel) (by have hb := (c0_tplace_b hl hl.2.2); omega)) (by have hb := (c0_tplace_b hl hl.2.2); omega) (t2_upr) ?_
  refine fl_Tq.stp (pc' := 41) (lv' := [some (.inr (.inr (.inl (16, 16)))), some (.inl x), some (.inl y), some (.inl z), some (.inl ((c0_tplace_v f (f 16 3)) * (3 : Int32)))]) (st' := [.inr (.inr (.inl (16, 16)))]) (m' := (fl_row f 17 (upd (upd (upd (f 17) ((c0_tplace_v f (f 16 3)).toInt.toNat * 3) x) ((c0_tplace_v f (f 16 3)).toInt.toNat * 3 + 1) y) ((c0_tplace_v f (f 16 3)).toInt.toNat * 3 + 2) z), l)) rfl rfl (fl_bo rfl) rfl ?_
  refine fl_Tq.gfV (k := 3) (v := f 16 3) rfl (fl_bo rfl) rfl (by simp only [fl_row_ne (by decide : 16 ≠ 17)]) ?_
  refine fl_Tq.stp (pc' := 45) (lv' := [some (.inr (.inr (.inl (16, 16)))), some (.inl x), some (.inl y), some (.inl z), some (.inl ((c0_tplace_v f (f 16 3)) * (3 : Int32)))]) (st' := [.inr (.inr (.inl (16, 16))), .inl (f 16 3)]) (m' := (fl_row f 17 (upd (upd (upd (f 17) ((c0_tplace_v f (f 16 3)).toInt.toNat * 3) x) ((c0_tplace_v f (f 16 3)).toInt.toNat * 3 + 1) y) ((c0_tplace_v f (f 16 3)).toInt.toNat * 3 + 2) z), l)) rfl rfl (fl_bo rfl) rfl ?_
  refine fl_Tq.gfV (k := 0) (v := f 16 0) rfl (fl_bo rfl) rfl (by simp only [fl_row_ne (by decide : 16 ≠ 17)]) ?_
  have hj89 : fl_Tq (pw_P L xs) 27 73 [some (.inr (.inr (.inl (16, 16)))), some (.inl x), some (.inl y), some (.inl z), some (.inl ((c0_tplace_v f (f 16 3)) * (3 : Int32)))] [] (fl_row (fl_row f 17 (upd (upd (upd (f 17) ((c0_tplace_v f (f 16 3)).toInt.toNat * 3) x) ((c0_tplace_v f (f 16 3)).toInt.toNat * 3 + 1) y) ((c0_tplace_v f (f 16 3)).toInt.toNat * 3 + 2) z)) 16 (upd (upd (f 16) 3 (c0_tadd_j48_0 f x y z)) 2 (c0_tadd_j48_1 f x y z)), l) Q → fl_Tq (pw_P L xs) 27 48 [some (.inr (.inr (.inl (16, 16)))), some (.inl x), some (.inl y), some (.inl z), some (.inl ((c0_tplace_v f (f 16 3)) * (3 : Int32)))] [.inl (f 16 0), .inl (f 16 3)] (fl_row f 17 (upd (upd (upd (f 17) ((c0_tplace_v f (f 16 3)).toInt.toNat * 3) x) ((c0_tplace_v f (f 16 3)).toInt.toNat * 3 + 1) y) ((c0_tplace_v f (f 16 3)).toInt.toNat * 3 + 2) z), l) Q := by
    intro hJ
    by_cases h1 : (f 16 3).toInt < (f 16 0).toInt
    · refine fl_Tq.jf rfl (fl_bo rfl) (c2_ge_f h1) rfl ?_
      refine fl_Tq.stp (pc' := 52) (lv' := [some (.inr (.inr (.inl (16, 16)))), some (.inl x), some (.inl y), some (.inl z), some (.inl ((c0_tplace_v f (f 16 3)) * (3 : Int32)))]) (st' := [.inr (.inr (.inl (16, 16)))]) (m' := (fl_row f 17 (upd (upd (upd (f 17) ((c0_tplace_v f (f 16 3)).toInt.toNat * 3) x) ((c0_tplace_v f (f 16 3)).toInt.toNat * 3 + 1) y) ((c0_tplace_v f (f 16 3)).toInt.toNat * 3 + 2) z), l)) rfl rfl (fl_bo rfl) rfl ?_
      refine fl_Tq.stp (pc' := 53) (lv' := [some (.inr (.inr (.inl (16, 16)))), some (.inl x), some (.inl y), some (.inl z), some (.inl ((c0_tplace_v f (f 16 3)) * (3 : Int32)))]) (st' := [.inr (.inr (.inl (16, 16))), .inr (.inr (.inl (16, 16)))]) (m' := (fl_row f 17 (upd (upd (upd (f 17) ((c0_tplace_v f (f 16 3)).toInt.toNat * 3) x) ((c0_tplace_v f (f 16 3)).toInt.toNat * 3 + 1) y) ((c0_tplace_v f (f 16 3)).toInt.toNat * 3 + 2) z), l)) rfl rfl (fl_bo rfl) rfl ?_
      refine fl_Tq.gfV (k := 3) (v := f 16 3) rfl (fl_bo rfl) rfl (by simp only [fl_row_ne (by decide : 16 ≠ 17)]) ?_
      refine fl_Tq.cI (c := (1 : Int32)) rfl (by decide +kernel) (fl_bo rfl) ?_
      refine fl_Tq.stp (pc' := 58) (lv' := [some (.inr (.inr (.inl (16, 16)))), some (.inl x), some (.inl y), some (.inl z), some (.inl ((c0_tplace_v f (f 16 3)) * (3 : Int32)))]) (st' := [.inl ((f 16 3) + (1 : Int32)), .inr (.inr (.inl (16, 16)))]) (m' := (fl_row f 17 (upd (upd (upd (f 17) ((c0_tplace_v f (f 16 3)).toInt.toNat * 3) x) ((c0_tplace_v f (f 16 3)).toInt.toNat * 3 + 1) y) ((c0_tplace_v f (f 16 3)).toInt.toNat * 3 + 2) z), l)) rfl rfl (fl_bo rfl) rfl ?_
      refine fl_Tq.pfV (k := 3) (m' := (fl_row (fl_row f 17 (upd (upd (upd (f 17) ((c0_tplace_v f (f 16 3)).toInt.toNat * 3) x) ((c0_tplace_v f (f 16 3)).toInt.toNat * 3 + 1) y) ((c0_tplace_v f (f 16 3)).toInt.toNat * 3 + 2) z)) 16 (upd (f 16) 3 ((f 16 3) + (1 : Int32))), l)) rfl (fl_bo rfl) rfl (t2_upn (by rw [fl_row_ne (by decide : 16 ≠ 17)])) ?_
      refine fl_Tq.stp (pc' := 73) (lv' := [some (.inr (.inr (.inl (16, 16)))), some (.inl x), some (.inl y), some (.inl z), some (.inl ((c0_tplace_v f (f 16 3)) * (3 : Int32)))]) (st' := []) (m' := (fl_row (fl_row f 17 (upd (upd (upd (f 17) ((c0_tplace_v f (f 16 3)).toInt.toNat * 3) x) ((c0_tplace_v f (f 16 3)).toInt.toNat * 3 + 1) y) ((c0_tplace_v f (f 16 3)).toInt.toNat * 3 + 2) z)) 16 (upd (f 16) 3 ((f 16 3) + (1 : Int32))), l)) rfl rfl (fl_bo rfl) rfl ?_
      have e0 : (fl_row (fl_row f 17 (upd (upd (upd (f 17) ((c0_tplace_v f (f 16 3)).toInt.toNat * 3) x) ((c0_tplace_v f (f 16 3)).toInt.toNat * 3 + 1) y) ((c0_tplace_v f (f 16 3)).toInt.toNat * 3 + 2) z)) 16 (upd (upd (f 16) 3 (c0_tadd_j48_0 f x y z)) 2 (c0_tadd_j48_1 f x y z))) = fl_row (fl_row f 17 (upd (upd (upd (f 17) ((c0_tplace_v f (f 16 3)).toInt.toNat * 3) x) ((c0_tplace_v f (f 16 3)).toInt.toNat * 3 + 1) y) ((c0_tplace_v f (f 16 3)).toInt.toNat * 3 + 2) z)) 16 (upd (f 16) 3 ((f 16 3) + (1 : Int32))) := by
        simp only [c0_tadd_j48_0, c0_tadd_j48_1, if_pos h1]
        funext q j
        simp only [fl_row, upd]
        repeat' split
        all_goals first | rfl | simp_all
      rw [e0] at hJ
      exact hJ
    · refine fl_Tq.jt rfl (fl_bo rfl) (c2_ge_t h1) rfl ?_
      refine fl_Tq.stp (pc' := 65) (lv' := [some (.inr (.inr (.inl (16, 16)))), some (.inl x), some (.inl y), some (.inl z), some (.inl ((c0_tplace_v f (f 16 3)) * (3 : Int32)))]) (st' := [.inr (.inr (.inl (16, 16)))]) (m' := (fl_row f 17 (upd (upd (upd (f 17) ((c0_tplace_v f (f 16 3)).toInt.toNat * 3) x) ((c0_tplace_v f (f 16 3)).toInt.toNat * 3 + 1) y) ((c0_tplace_v f (f 16 3)).toInt.toNat * 3 + 2) z), l)) rfl rfl (fl_bo rfl) rfl ?_
      refine fl_Tq.stp (pc' := 66) (lv' := [some (.inr (.inr (.inl (16, 16)))), some (.inl x), some (.inl y), some (.inl z), some (.inl ((c0_tplace_v f (f 16 3)) * (3 : Int32)))]) (st' := [.inr (.inr (.inl (16, 16))), .inr (.inr (.inl (16, 16)))]) (m' := (fl_row f 17 (upd (upd (upd (f 17) ((c0_tplace_v f (f 16 3)).toInt.toNat * 3) x) ((c0_tplace_v f (f 16 3)).toInt.toNat * 3 + 1) y) ((c0_tplace_v f (f 16 3)).toInt.toNat * 3 + 2) z), l)) rfl rfl (fl_bo rfl) rfl ?_
      refine fl_Tq.cI (c := (1 : Int32)) rfl (by decide +kernel) (fl_bo rfl) ?_
      refine fl_Tq.cal rfl rfl (fl_bo rfl) rfl ?_
      refine c0_tplace_q  ?_
      show fl_Tq _ 27 70 [some (.inr (.inr (.inl (16, 16)))), some (.inl x), some (.inl y), some (.inl z), some (.inl ((c0_tplace_v f (f 16 3)) * (3 : Int32)))] [.inl (c0_tplace_v (fl_row f 17 (upd (upd (upd (f 17) ((c0_tplace_v f (f 16 3)).toInt.toNat * 3) x) ((c0_tplace_v f (f 16 3)).toInt.toNat * 3 + 1) y) ((c0_tplace_v f (f 16 3)).toInt.toNat * 3 + 2) z)) (1 : Int32)), .inr (.inr (.inl (16, 16)))] (fl_row f 17 (upd (upd (upd (f 17) ((c0_tplace_v f (f 16 3)).toInt.toNat * 3) x) ((c0_tplace_v f (f 16 3)).toInt.toNat * 3 + 1) y) ((c0_tplace_v f (f 16 3)).toInt.toNat * 3 + 2) z), l) _
      refine fl_Tq.pfV (k := 2) (m' := (fl_row (fl_row f 17 (upd (upd (upd (f 17) ((c0_tplace_v f (f 16 3)).toInt.toNat * 3) x) ((c0_tplace_v f (f 16 3)).toInt.toNat * 3 + 1) y) ((c0_tplace_v f (f 16 3)).toInt.toNat * 3 + 2) z)) 16 (upd (f 16) 2 (c0_tplace_v (fl_row f 17 (upd (upd (upd (f 17) ((c0_tplace_v f (f 16 3)).toInt.toNat * 3) x) ((c0_tplace_v f (f 16 3)).toInt.toNat * 3 + 1) y) ((c0_tplace_v f (f 16 3)).toInt.toNat * 3 + 2) z)) (1 : Int32))), l)) rfl (fl_bo rfl) rfl (t2_upn (by rw [fl_row_ne (by decide : 16 ≠ 17)])) ?_
      have e0 : (fl_row (fl_row f 17 (upd (upd (upd (f 17) ((c0_tplace_v f (f 16 3)).toInt.toNat * 3) x) ((c0_tplace_v f (f 16 3)).toInt.toNat * 3 + 1) y) ((c0_tplace_v f (f 16 3)).toInt.toNat * 3 + 2) z)) 16 (upd (upd (f 16) 3 (c0_tadd_j48_0 f x y z)) 2 (c0_tadd_j48_1 f x y z))) = fl_row (fl_row f 17 (upd (upd (upd (f 17) ((c0_tplace_v f (f 16 3)).toInt.toNat * 3) x) ((c0_tplace_v f (f 16 3)).toInt.toNat * 3 + 1) y) ((c0_tplace_v f (f 16 3)).toInt.toNat * 3 + 2) z)) 16 (upd (f 16) 2 (c0_tplace_v (fl_row f 17 (upd (upd (upd (f 17) ((c0_tplace_v f (f 16 3)).toInt.toNat * 3) x) ((c0_tplace_v f (f 16 3)).toInt.toNat * 3 + 1) y) ((c0_tplace_v f (f 16 3)).toInt.toNat * 3 + 2) z)) (1 : Int32))) := by
        simp only [c0_tadd_j48_0, c0_tadd_j48_1, if_neg h1]
        funext q j
        simp only [fl_row, upd]
        repeat' split
        all_goals first | rfl | simp_all
      rw [e0] at hJ
      exact hJ
  refine hj89 ?_
  show fl_Tq _ 27 73 [some (.inr (.inr (.inl (16, 16)))), some (.inl x), some (.inl y), some (.inl z), some (.inl ((c0_tplace_v f (f 16 3)) * (3 : Int32)))] [] (fl_row (fl_row f 17 (upd (upd (upd (f 17) ((c0_tplace_v f (f 16 3)).toInt.toNat * 3) x) ((c0_tplace_v f (f 16 3)).toInt.toNat * 3 + 1) y) ((c0_tplace_v f (f 16 3)).toInt.toNat * 3 + 2) z)) 16 (upd (upd (f 16) 3 (c0_tadd_j48_0 f x y z)) 2 (c0_tadd_j48_1 f x y z)), l) _
  exact fl_Tq.ret rfl rfl rfl k
noncomputable def c2_bplace_j12_0 (f : t2_F) (x : Int32) : Int32 := if ((f 193 2) + x).toInt < (f 193 0).toInt then (f 193 2) + x else ((f 193 2) + x) - (f 193 0)
noncomputable def c2_bplace_v (f : t2_F) (x : Int32) : Int32 := c2_bplace_j12_0 f x
theorem c2_bplace_q {L : Nat} {xs : Nat → Int32} {f : t2_F} {l : t2_L} {Q : Option fl_V → fl_M → Prop} {x : Int32}  (k : Q (some (.inl (c2_bplace_v f x))) (f, l)) : fl_Tq (pw_P L xs) 29 0 (fl_args (am_mxl (pw_P L xs) 29) [.inr (.inr (.inl (61, 193))), .inl x]) [] (f, l) Q := by
  refine fl_Tq.stp (pc' := 1) (lv' := [some (.inr (.inr (.inl (61, 193)))), some (.inl x), none]) (st' := [.inr (.inr (.inl (61, 193)))]) (m' := (f, l)) rfl rfl (fl_bo rfl) rfl ?_
  refine fl_Tq.gfV (k := 2) (v := f 193 2) rfl (fl_bo rfl) rfl rfl ?_
  refine fl_Tq.stp (pc' := 5) (lv' := [some (.inr (.inr (.inl (61, 193)))), some (.inl x), none]) (st' := [.inl x, .inl (f 193 2)]) (m' := (f, l)) rfl rfl (fl_bo rfl) rfl ?_
  refine fl_Tq.stp (pc' := 6) (lv' := [some (.inr (.inr (.inl (61, 193)))), some (.inl x), none]) (st' := [.inl ((f 193 2) + x)]) (m' := (f, l)) rfl rfl (fl_bo rfl) rfl ?_
  refine fl_Tq.stp (pc' := 7) (lv' := [some (.inr (.inr (.inl (61, 193)))), some (.inl x), some (.inl ((f 193 2) + x))]) (st' := []) (m' := (f, l)) rfl rfl (fl_bo rfl) rfl ?_
  refine fl_Tq.stp (pc' := 8) (lv' := [some (.inr (.inr (.inl (61, 193)))), some (.inl x), some (.inl ((f 193 2) + x))]) (st' := [.inl ((f 193 2) + x)]) (m' := (f, l)) rfl rfl (fl_bo rfl) rfl ?_
  refine fl_Tq.stp (pc' := 9) (lv' := [some (.inr (.inr (.inl (61, 193)))), some (.inl x), some (.inl ((f 193 2) + x))]) (st' := [.inr (.inr (.inl (61, 193))), .inl ((f 193 2) + x)]) (m' := (f, l)) rfl rfl (fl_bo rfl) rfl ?_
  refine fl_Tq.gfV (k := 0) (v := f 193 0) rfl (fl_bo rfl) rfl rfl ?_
  have hj90 : fl_Tq (pw_P L xs) 29 25 [some (.inr (.inr (.inl (61, 193)))), some (.inl x), some (.inl ((f 193 2) + x))] [.inl (c2_bplace_j12_0 f x)] (f, l) Q → fl_Tq (pw_P L xs) 29 12 [some (.inr (.inr (.inl (61, 193)))), some (.inl x), some (.inl ((f 193 2) + x))] [.inl (f 193 0), .inl ((f 193 2) + x)] (f, l) Q := by
    intro hJ
    by_cases h1 : ((f 193 2) + x).toInt < (f 193 0).toInt
    · refine fl_Tq.jt rfl (fl_bo rfl) (c2_lt_t h1) rfl ?_
      refine fl_Tq.stp (pc' := 25) (lv' := [some (.inr (.inr (.inl (61, 193)))), some (.inl x), some (.inl ((f 193 2) + x))]) (st' := [.inl ((f 193 2) + x)]) (m' := (f, l)) rfl rfl (fl_bo rfl) rfl ?_
      have e0 : (c2_bplace_j12_0 f x) = (f 193 2) + x := by simp only [c2_bplace_j12_0, if_pos h1]
      rw [e0] at hJ
      exact hJ
    · refine fl_Tq.jf rfl (fl_bo rfl) (c2_lt_f h1) rfl ?_
      refine fl_Tq.stp (pc' := 16) (lv' := [some (.inr (.inr (.inl (61, 193)))), some (.inl x), some (.inl ((f 193 2) + x))]) (st' := [.inl ((f 193 2) + x)]) (m' := (f, l)) rfl rfl (fl_bo rfl) rfl ?_
      refine fl_Tq.stp (pc' := 17) (lv' := [some (.inr (.inr (.inl (61, 193)))), some (.inl x), some (.inl ((f 193 2) + x))]) (st' := [.inr (.inr (.inl (61, 193))), .inl ((f 193 2) + x)]) (m' := (f, l)) rfl rfl (fl_bo rfl) rfl ?_
      refine fl_Tq.gfV (k := 0) (v := f 193 0) rfl (fl_bo rfl) rfl rfl ?_
      refine fl_Tq.stp (pc' := 21) (lv' := [some (.inr (.inr (.inl (61, 193)))), some (.inl x), some (.inl ((f 193 2) + x))]) (st' := [.inl (((f 193 2) + x) - (f 193 0))]) (m' := (f, l)) rfl rfl (fl_bo rfl) rfl ?_
      refine fl_Tq.stp (pc' := 25) (lv' := [some (.inr (.inr (.inl (61, 193)))), some (.inl x), some (.inl ((f 193 2) + x))]) (st' := [.inl (((f 193 2) + x) - (f 193 0))]) (m' := (f, l)) rfl rfl (fl_bo rfl) rfl ?_
      have e0 : (c2_bplace_j12_0 f x) = ((f 193 2) + x) - (f 193 0) := by simp only [c2_bplace_j12_0, if_neg h1]
      rw [e0] at hJ
      exact hJ
  refine hj90 ?_
  show fl_Tq _ 29 25 [some (.inr (.inr (.inl (61, 193)))), some (.inl x), some (.inl ((f 193 2) + x))] [.inl (c2_bplace_j12_0 f x)] (f, l) _
  exact fl_Tq.ret rfl rfl rfl k
theorem c2_bplace_b {f : t2_F} {x : Int32} (hl : f 193 0 = (24 : Int32) ∧ (0 ≤ (f 193 2).toInt ∧ (f 193 2).toInt ≤ 23) ∧ (0 ≤ (f 193 3).toInt ∧ (f 193 3).toInt ≤ 24)) (hx : 0 ≤ x.toInt ∧ x.toInt ≤ 24) : 0 ≤ (c2_bplace_v f x).toInt ∧ (c2_bplace_v f x).toInt ≤ 23 := by
  have e : (24 : Int32).toInt = 24 := by decide +kernel
  obtain ⟨h1, h2, h3⟩ := hl
  have e2 : (f 193 2 + x).toInt = (f 193 2).toInt + x.toInt := at_add32 (by omega) (by omega)
  unfold c2_bplace_v c2_bplace_j12_0
  rw [h1]
  split
  · omega
  · rename_i h
    rw [at_sub32 (by omega) (by omega)]
    omega
noncomputable def c2_badd_j48_0 (f : t2_F) (x y z : Int32) : Int32 := if (f 193 3).toInt < (f 193 0).toInt then (f 193 3) + (1 : Int32) else f 193 3
noncomputable def c2_badd_j48_1 (f : t2_F) (x y z : Int32) : Int32 := if (f 193 3).toInt < (f 193 0).toInt then f 193 2 else c2_bplace_v (fl_row f 194 (upd (upd (upd (f 194) ((c2_bplace_v f (f 193 3)).toInt.toNat * 3) x) ((c2_bplace_v f (f 193 3)).toInt.toNat * 3 + 1) y) ((c2_bplace_v f (f 193 3)).toInt.toNat * 3 + 2) z)) (1 : Int32)
noncomputable def c2_badd_m (f : t2_F) (x y z : Int32) : t2_F := fl_row (fl_row f 194 (upd (upd (upd (f 194) ((c2_bplace_v f (f 193 3)).toInt.toNat * 3) x) ((c2_bplace_v f (f 193 3)).toInt.toNat * 3 + 1) y) ((c2_bplace_v f (f 193 3)).toInt.toNat * 3 + 2) z)) 193 (upd (upd (f 193) 3 (c2_badd_j48_0 f x y z)) 2 (c2_badd_j48_1 f x y z))
theorem c2_badd_fr {f : t2_F} {x y z : Int32} {p : Nat} (e0 : p ≠ 194) (e1 : p ≠ 193) : c2_badd_m f x y z p = f p := by
  unfold c2_badd_m
  repeat' split
  all_goals first | rfl | simp only [fl_row_ne e0, fl_row_ne e1]
theorem c2_badd_q {L : Nat} {xs : Nat → Int32} {f : t2_F} {l : t2_L} {Q : Option fl_V → fl_M → Prop} {x y z : Int32} (hl : f 193 0 = (24 : Int32) ∧ (0 ≤ (f 193 2).toInt ∧ (f 193 2).toInt ≤ 23) ∧ (0 ≤ (f 193 3).toInt ∧ (f 193 3).toInt ≤ 24)) (k : Q none (c2_badd_m f x y z, l)) : fl_Tq (pw_P L xs) 27 0 (fl_args (am_mxl (pw_P L xs) 27) [.inr (.inr (.inl (61, 193))), .inl x, .inl y, .inl z]) [] (f, l) Q := by
  refine fl_Tq.stp (pc' := 1) (lv' := [some (.inr (.inr (.inl (61, 193)))), some (.inl x), some (.inl y), some (.inl z), none]) (st' := [.inr (.inr (.inl (61, 193)))]) (m' := (f, l)) rfl rfl (fl_bo rfl) rfl ?_
  refine fl_Tq.stp (pc' := 2) (lv' := [some (.inr (.inr (.inl (61, 193)))), some (.inl x), some (.inl y), some (.inl z), none]) (st' := [.inr (.inr (.inl (61, 193))), .inr (.inr (.inl (61, 193)))]) (m' := (f, l)) rfl rfl (fl_bo rfl) rfl ?_
  refine fl_Tq.gfV (k := 3) (v := f 193 3) rfl (fl_bo rfl) rfl rfl ?_
  refine fl_Tq.cal rfl rfl (fl_bo rfl) rfl ?_
  refine c2_bplace_q  ?_
  show fl_Tq _ 27 8 [some (.inr (.inr (.inl (61, 193)))), some (.inl x), some (.inl y), some (.inl z), none] [.inl (c2_bplace_v f (f 193 3))] (f, l) _
  refine fl_Tq.cI (c := (3 : Int32)) rfl (by decide +kernel) (fl_bo rfl) ?_
  refine fl_Tq.stp (pc' := 10) (lv' := [some (.inr (.inr (.inl (61, 193)))), some (.inl x), some (.inl y), some (.inl z), none]) (st' := [.inl ((c2_bplace_v f (f 193 3)) * (3 : Int32))]) (m' := (f, l)) rfl rfl (fl_bo rfl) rfl ?_
  refine fl_Tq.stp (pc' := 12) (lv' := [some (.inr (.inr (.inl (61, 193)))), some (.inl x), some (.inl y), some (.inl z), some (.inl ((c2_bplace_v f (f 193 3)) * (3 : Int32)))]) (st' := []) (m' := (f, l)) rfl rfl (fl_bo rfl) rfl ?_
  refine fl_Tq.stp (pc' := 13) (lv' := [some (.inr (.inr (.inl (61, 193)))), some (.inl x), some (.inl y), some (.inl z), some (.inl ((c2_bplace_v f (f 193 3)) * (3 : Int32)))]) (st' := [.inr (.inr (.inl (61, 193)))]) (m' := (f, l)) rfl rfl (fl_bo rfl) rfl ?_
  refine fl_Tq.stp (pc' := 16) (lv' := [some (.inr (.inr (.inl (61, 193)))), some (.inl x), some (.inl y), some (.inl z), some (.inl ((c2_bplace_v f (f 193 3)) * (3 : Int32)))]) (st' := [.inr (.inr (.inl (62, 194)))]) (m' := (f, l)) rfl rfl (fl_bo rfl) rfl ?_
  refine fl_Tq.stp (pc' := 18) (lv' := [some (.inr (.inr (.inl (61, 193)))), some (.inl x), some (.inl y), some (.inl z), some (.inl ((c2_bplace_v f (f 193 3)) * (3 : Int32)))]) (st' := [.inl ((c2_bplace_v f (f 193 3)) * (3 : Int32)), .inr (.inr (.inl (62, 194)))]) (m' := (f, l)) rfl rfl (fl_bo rfl) rfl ?_
  refine fl_Tq.stp (pc' := 19) (lv' := [some (.inr (.inr (.inl (61, 193)))), some (.inl x), some (.inl y), some (.inl z), some (.inl ((c2_bplace_v f (f 193 3)) * (3 : Int32)))]) (st' := [.inl x, .inl ((c2_bplace_v f (f 193 3)) * (3 : Int32)), .inr (.inr (.inl (62, 194)))]) (m' := (f, l)) rfl rfl (fl_bo rfl) rfl ?_
  refine fl_Tq.svV (p := 194) (τ := 62) (n := 72) (z := (0, 0, 0)) (k := (c2_bplace_v f (f 193 3)).toInt.toNat * 3) (m' := (fl_row f 194 (upd (f 194) ((c2_bplace_v f (f 193 3)).toInt.toNat * 3) x), l)) rfl (fl_bo rfl) rfl (t2_im (have hb := (c2_bplace_b hl hl.2.2); t2_nn hb.1) (by decide +kernel) (by have hb := (c2_bplace_b hl hl.2.2); omega)) (by have hb := (c2_bplace_b hl hl.2.2); omega) (t2_upn rfl) ?_
  refine fl_Tq.stp (pc' := 21) (lv' := [some (.inr (.inr (.inl (61, 193)))), some (.inl x), some (.inl y), some (.inl z), some (.inl ((c2_bplace_v f (f 193 3)) * (3 : Int32)))]) (st' := [.inr (.inr (.inl (61, 193)))]) (m' := (fl_row f 194 (upd (f 194) ((c2_bplace_v f (f 193 3)).toInt.toNat * 3) x), l)) rfl rfl (fl_bo rfl) rfl ?_
  refine fl_Tq.stp (pc' := 24) (lv' := [some (.inr (.inr (.inl (61, 193)))), some (.inl x), some (.inl y), some (.inl z), some (.inl ((c2_bplace_v f (f 193 3)) * (3 : Int32)))]) (st' := [.inr (.inr (.inl (62, 194)))]) (m' := (fl_row f 194 (upd (f 194) ((c2_bplace_v f (f 193 3)).toInt.toNat * 3) x), l)) rfl rfl (fl_bo rfl) rfl ?_
  refine fl_Tq.stp (pc' := 26) (lv' := [some (.inr (.inr (.inl (61, 193)))), some (.inl x), some (.inl y), some (.inl z), some (.inl ((c2_bplace_v f (f 193 3)) * (3 : Int32)))]) (st' := [.inl ((c2_bplace_v f (f 193 3)) * (3 : Int32)), .inr (.inr (.inl (62, 194)))]) (m' := (fl_row f 194 (upd (f 194) ((c2_bplace_v f (f 193 3)).toInt.toNat * 3) x), l)) rfl rfl (fl_bo rfl) rfl ?_
  refine fl_Tq.cI (c := (1 : Int32)) rfl (by decide +kernel) (fl_bo rfl) ?_
  refine fl_Tq.stp (pc' := 28) (lv' := [some (.inr (.inr (.inl (61, 193)))), some (.inl x), some (.inl y), some (.inl z), some (.inl ((c2_bplace_v f (f 193 3)) * (3 : Int32)))]) (st' := [.inl (((c2_bplace_v f (f 193 3)) * (3 : Int32)) + (1 : Int32)), .inr (.inr (.inl (62, 194)))]) (m' := (fl_row f 194 (upd (f 194) ((c2_bplace_v f (f 193 3)).toInt.toNat * 3) x), l)) rfl rfl (fl_bo rfl) rfl ?_
  refine fl_Tq.stp (pc' := 29) (lv' := [some (.inr (.inr (.inl (61, 193)))), some (.inl x), some (.inl y), some (.inl z), some (.inl ((c2_bplace_v f (f 193 3)) * (3 : Int32)))]) (st' := [.inl y, .inl (((c2_bplace_v f (f 193 3)) * (3 : Int32)) + (1 : Int32)), .inr (.inr (.inl (62, 194)))]) (m' := (fl_row f 194 (upd (f 194) ((c2_bplace_v f (f 193 3)).toInt.toNat * 3) x), l)) rfl rfl (fl_bo rfl) rfl ?_
  refine fl_Tq.svV (p := 194) (τ := 62) (n := 72) (z := (0, 0, 0)) (k := (c2_bplace_v f (f 193 3)).toInt.toNat * 3 + 1) (m' := (fl_row f 194 (upd (upd (f 194) ((c2_bplace_v f (f 193 3)).toInt.toNat * 3) x) ((c2_bplace_v f (f 193 3)).toInt.toNat * 3 + 1) y), l)) rfl (fl_bo rfl) rfl (t2_ia (t2_im (have hb := (c2_bplace_b hl hl.2.2); t2_nn hb.1) (by decide +kernel) (by have hb := (c2_bplace_b hl hl.2.2); omega)) (by decide +kernel) (by have hb := (c2_bplace_b hl hl.2.2); omega)) (by have hb := (c2_bplace_b hl hl.2.2); omega) (t2_upr) ?_
  refine fl_Tq.stp (pc' := 31) (lv' := [some (.inr (.inr (.inl (61, 193)))), some (.inl x), some (.inl y), some (.inl z), some (.inl ((c2_bplace_v f (f 193 3)) * (3 : Int32)))]) (st' := [.inr (.inr (.inl (61, 193)))]) (m' := (fl_row f 194 (upd (upd (f 194) ((c2_bplace_v f (f 193 3)).toInt.toNat * 3) x) ((c2_bplace_v f (f 193 3)).toInt.toNat * 3 + 1) y), l)) rfl rfl (fl_bo rfl) rfl ?_
  refine fl_Tq.stp (pc' := 34) (lv' := [some (.inr (.inr (.inl (61, 193)))), some (.inl x), some (.inl y), some (.inl z), some (.inl ((c2_bplace_v f (f 193 3)) * (3 : Int32)))]) (st' := [.inr (.inr (.inl (62, 194)))]) (m' := (fl_row f 194 (upd (upd (f 194) ((c2_bplace_v f (f 193 3)).toInt.toNat * 3) x) ((c2_bplace_v f (f 193 3)).toInt.toNat * 3 + 1) y), l)) rfl rfl (fl_bo rfl) rfl ?_
  refine fl_Tq.stp (pc' := 36) (lv' := [some (.inr (.inr (.inl (61, 193)))), some (.inl x), some (.inl y), some (.inl z), some (.inl ((c2_bplace_v f (f 193 3)) * (3 : Int32)))]) (st' := [.inl ((c2_bplace_v f (f 193 3)) * (3 : Int32)), .inr (.inr (.inl (62, 194)))]) (m' := (fl_row f 194 (upd (upd (f 194) ((c2_bplace_v f (f 193 3)).toInt.toNat * 3) x) ((c2_bplace_v f (f 193 3)).toInt.toNat * 3 + 1) y), l)) rfl rfl (fl_bo rfl) rfl ?_
  refine fl_Tq.cI (c := (2 : Int32)) rfl (by decide +kernel) (fl_bo rfl) ?_
  refine fl_Tq.stp (pc' := 38) (lv' := [some (.inr (.inr (.inl (61, 193)))), some (.inl x), some (.inl y), some (.inl z), some (.inl ((c2_bplace_v f (f 193 3)) * (3 : Int32)))]) (st' := [.inl (((c2_bplace_v f (f 193 3)) * (3 : Int32)) + (2 : Int32)), .inr (.inr (.inl (62, 194)))]) (m' := (fl_row f 194 (upd (upd (f 194) ((c2_bplace_v f (f 193 3)).toInt.toNat * 3) x) ((c2_bplace_v f (f 193 3)).toInt.toNat * 3 + 1) y), l)) rfl rfl (fl_bo rfl) rfl ?_
  refine fl_Tq.stp (pc' := 39) (lv' := [some (.inr (.inr (.inl (61, 193)))), some (.inl x), some (.inl y), some (.inl z), some (.inl ((c2_bplace_v f (f 193 3)) * (3 : Int32)))]) (st' := [.inl z, .inl (((c2_bplace_v f (f 193 3)) * (3 : Int32)) + (2 : Int32)), .inr (.inr (.inl (62, 194)))]) (m' := (fl_row f 194 (upd (upd (f 194) ((c2_bplace_v f (f 193 3)).toInt.toNat * 3) x) ((c2_bplace_v f (f 193 3)).toInt.toNat * 3 + 1) y), l)) rfl rfl (fl_bo rfl) rfl ?_
  refine fl_Tq.svV (p := 194) (τ := 62) (n := 72) (z := (0, 0, 0)) (k := (c2_bplace_v f (f 193 3)).toInt.toNat * 3 + 2) (m' := (fl_row f 194 (upd (upd (upd (f 194) ((c2_bplace_v f (f 193 3)).toInt.toNat * 3) x) ((c2_bplace_v f (f 193 3)).toInt.toNat * 3 + 1) y) ((c2_bplace_v f (f 193 3)).toInt.toNat * 3 + 2) z), l)) rfl (fl_bo rfl) rfl (t2_ia (t2_im (have hb := (c2_bplace_b hl hl.2.2); t2_nn hb.1) (by decide +kernel) (by have hb := (c2_bplace_b hl hl.2.2); omega)) (by decide +kernel) (by have hb := (c2_bplace_b hl hl.2.2); omega)) (by have hb := (c2_bplace_b hl hl.2.2); omega) (t2_upr) ?_
  refine fl_Tq.stp (pc' := 41) (lv' := [some (.inr (.inr (.inl (61, 193)))), some (.inl x), some (.inl y), some (.inl z), some (.inl ((c2_bplace_v f (f 193 3)) * (3 : Int32)))]) (st' := [.inr (.inr (.inl (61, 193)))]) (m' := (fl_row f 194 (upd (upd (upd (f 194) ((c2_bplace_v f (f 193 3)).toInt.toNat * 3) x) ((c2_bplace_v f (f 193 3)).toInt.toNat * 3 + 1) y) ((c2_bplace_v f (f 193 3)).toInt.toNat * 3 + 2) z), l)) rfl rfl (fl_bo rfl) rfl ?_
  refine fl_Tq.gfV (k := 3) (v := f 193 3) rfl (fl_bo rfl) rfl (by simp only [fl_row_ne (by decide : 193 ≠ 194)]) ?_
  refine fl_Tq.stp (pc' := 45) (lv' := [some (.inr (.inr (.inl (61, 193)))), some (.inl x), some (.inl y), some (.inl z), some (.inl ((c2_bplace_v f (f 193 3)) * (3 : Int32)))]) (st' := [.inr (.inr (.inl (61, 193))), .inl (f 193 3)]) (m' := (fl_row f 194 (upd (upd (upd (f 194) ((c2_bplace_v f (f 193 3)).toInt.toNat * 3) x) ((c2_bplace_v f (f 193 3)).toInt.toNat * 3 + 1) y) ((c2_bplace_v f (f 193 3)).toInt.toNat * 3 + 2) z), l)) rfl rfl (fl_bo rfl) rfl ?_
  refine fl_Tq.gfV (k := 0) (v := f 193 0) rfl (fl_bo rfl) rfl (by simp only [fl_row_ne (by decide : 193 ≠ 194)]) ?_
  have hj91 : fl_Tq (pw_P L xs) 27 73 [some (.inr (.inr (.inl (61, 193)))), some (.inl x), some (.inl y), some (.inl z), some (.inl ((c2_bplace_v f (f 193 3)) * (3 : Int32)))] [] (fl_row (fl_row f 194 (upd (upd (upd (f 194) ((c2_bplace_v f (f 193 3)).toInt.toNat * 3) x) ((c2_bplace_v f (f 193 3)).toInt.toNat * 3 + 1) y) ((c2_bplace_v f (f 193 3)).toInt.toNat * 3 + 2) z)) 193 (upd (upd (f 193) 3 (c2_badd_j48_0 f x y z)) 2 (c2_badd_j48_1 f x y z)), l) Q → fl_Tq (pw_P L xs) 27 48 [some (.inr (.inr (.inl (61, 193)))), some (.inl x), some (.inl y), some (.inl z), some (.inl ((c2_bplace_v f (f 193 3)) * (3 : Int32)))] [.inl (f 193 0), .inl (f 193 3)] (fl_row f 194 (upd (upd (upd (f 194) ((c2_bplace_v f (f 193 3)).toInt.toNat * 3) x) ((c2_bplace_v f (f 193 3)).toInt.toNat * 3 + 1) y) ((c2_bplace_v f (f 193 3)).toInt.toNat * 3 + 2) z), l) Q := by
    intro hJ
    by_cases h1 : (f 193 3).toInt < (f 193 0).toInt
    · refine fl_Tq.jf rfl (fl_bo rfl) (c2_ge_f h1) rfl ?_
      refine fl_Tq.stp (pc' := 52) (lv' := [some (.inr (.inr (.inl (61, 193)))), some (.inl x), some (.inl y), some (.inl z), some (.inl ((c2_bplace_v f (f 193 3)) * (3 : Int32)))]) (st' := [.inr (.inr (.inl (61, 193)))]) (m' := (fl_row f 194 (upd (upd (upd (f 194) ((c2_bplace_v f (f 193 3)).toInt.toNat * 3) x) ((c2_bplace_v f (f 193 3)).toInt.toNat * 3 + 1) y) ((c2_bplace_v f (f 193 3)).toInt.toNat * 3 + 2) z), l)) rfl rfl (fl_bo rfl) rfl ?_
      refine fl_Tq.stp (pc' := 53) (lv' := [some (.inr (.inr (.inl (61, 193)))), some (.inl x), some (.inl y), some (.inl z), some (.inl ((c2_bplace_v f (f 193 3)) * (3 : Int32)))]) (st' := [.inr (.inr (.inl (61, 193))), .inr (.inr (.inl (61, 193)))]) (m' := (fl_row f 194 (upd (upd (upd (f 194) ((c2_bplace_v f (f 193 3)).toInt.toNat * 3) x) ((c2_bplace_v f (f 193 3)).toInt.toNat * 3 + 1) y) ((c2_bplace_v f (f 193 3)).toInt.toNat * 3 + 2) z), l)) rfl rfl (fl_bo rfl) rfl ?_
      refine fl_Tq.gfV (k := 3) (v := f 193 3) rfl (fl_bo rfl) rfl (by simp only [fl_row_ne (by decide : 193 ≠ 194)]) ?_
      refine fl_Tq.cI (c := (1 : Int32)) rfl (by decide +kernel) (fl_bo rfl) ?_
      refine fl_Tq.stp (pc' := 58) (lv' := [some (.inr (.inr (.inl (61, 193)))), some (.inl x), some (.inl y), some (.inl z), some (.inl ((c2_bplace_v f (f 193 3)) * (3 : Int32)))]) (st' := [.inl ((f 193 3) + (1 : Int32)), .inr (.inr (.inl (61, 193)))]) (m' := (fl_row f 194 (upd (upd (upd (f 194) ((c2_bplace_v f (f 193 3)).toInt.toNat * 3) x) ((c2_bplace_v f (f 193 3)).toInt.toNat * 3 + 1) y) ((c2_bplace_v f (f 193 3)).toInt.toNat * 3 + 2) z), l)) rfl rfl (fl_bo rfl) rfl ?_
      refine fl_Tq.pfV (k := 3) (m' := (fl_row (fl_row f 194 (upd (upd (upd (f 194) ((c2_bplace_v f (f 193 3)).toInt.toNat * 3) x) ((c2_bplace_v f (f 193 3)).toInt.toNat * 3 + 1) y) ((c2_bplace_v f (f 193 3)).toInt.toNat * 3 + 2) z)) 193 (upd (f 193) 3 ((f 193 3) + (1 : Int32))), l)) rfl (fl_bo rfl) rfl (t2_upn (by rw [fl_row_ne (by decide : 193 ≠ 194)])) ?_
      refine fl_Tq.stp (pc' := 73) (lv' := [some (.inr (.inr (.inl (61, 193)))), some (.inl x), some (.inl y), some (.inl z), some (.inl ((c2_bplace_v f (f 193 3)) * (3 : Int32)))]) (st' := []) (m' := (fl_row (fl_row f 194 (upd (upd (upd (f 194) ((c2_bplace_v f (f 193 3)).toInt.toNat * 3) x) ((c2_bplace_v f (f 193 3)).toInt.toNat * 3 + 1) y) ((c2_bplace_v f (f 193 3)).toInt.toNat * 3 + 2) z)) 193 (upd (f 193) 3 ((f 193 3) + (1 : Int32))), l)) rfl rfl (fl_bo rfl) rfl ?_
      have e0 : (fl_row (fl_row f 194 (upd (upd (upd (f 194) ((c2_bplace_v f (f 193 3)).toInt.toNat * 3) x) ((c2_bplace_v f (f 193 3)).toInt.toNat * 3 + 1) y) ((c2_bplace_v f (f 193 3)).toInt.toNat * 3 + 2) z)) 193 (upd (upd (f 193) 3 (c2_badd_j48_0 f x y z)) 2 (c2_badd_j48_1 f x y z))) = fl_row (fl_row f 194 (upd (upd (upd (f 194) ((c2_bplace_v f (f 193 3)).toInt.toNat * 3) x) ((c2_bplace_v f (f 193 3)).toInt.toNat * 3 + 1) y) ((c2_bplace_v f (f 193 3)).toInt.toNat * 3 + 2) z)) 193 (upd (f 193) 3 ((f 193 3) + (1 : Int32))) := by
        simp only [c2_badd_j48_0, c2_badd_j48_1, if_pos h1]
        funext q j
        simp only [fl_row, upd]
        repeat' split
        all_goals first | rfl | simp_all
      rw [e0] at hJ
      exact hJ
    · refine fl_Tq.jt rfl (fl_bo rfl) (c2_ge_t h1) rfl ?_
      refine fl_Tq.stp (pc' := 65) (lv' := [some (.inr (.inr (.inl (61, 193)))), some (.inl x), some (.inl y), some (.inl z), some (.inl ((c2_bplace_v f (f 193 3)) * (3 : Int32)))]) (st' := [.inr (.inr (.inl (61, 193)))]) (m' := (fl_row f 194 (upd (upd (upd (f 194) ((c2_bplace_v f (f 193 3)).toInt.toNat * 3) x) ((c2_bplace_v f (f 193 3)).toInt.toNat * 3 + 1) y) ((c2_bplace_v f (f 193 3)).toInt.toNat * 3 + 2) z), l)) rfl rfl (fl_bo rfl) rfl ?_
      refine fl_Tq.stp (pc' := 66) (lv' := [some (.inr (.inr (.inl (61, 193)))), some (.inl x), some (.inl y), some (.inl z), some (.inl ((c2_bplace_v f (f 193 3)) * (3 : Int32)))]) (st' := [.inr (.inr (.inl (61, 193))), .inr (.inr (.inl (61, 193)))]) (m' := (fl_row f 194 (upd (upd (upd (f 194) ((c2_bplace_v f (f 193 3)).toInt.toNat * 3) x) ((c2_bplace_v f (f 193 3)).toInt.toNat * 3 + 1) y) ((c2_bplace_v f (f 193 3)).toInt.toNat * 3 + 2) z), l)) rfl rfl (fl_bo rfl) rfl ?_
      refine fl_Tq.cI (c := (1 : Int32)) rfl (by decide +kernel) (fl_bo rfl) ?_
      refine fl_Tq.cal rfl rfl (fl_bo rfl) rfl ?_
      refine c2_bplace_q  ?_
      show fl_Tq _ 27 70 [some (.inr (.inr (.inl (61, 193)))), some (.inl x), some (.inl y), some (.inl z), some (.inl ((c2_bplace_v f (f 193 3)) * (3 : Int32)))] [.inl (c2_bplace_v (fl_row f 194 (upd (upd (upd (f 194) ((c2_bplace_v f (f 193 3)).toInt.toNat * 3) x) ((c2_bplace_v f (f 193 3)).toInt.toNat * 3 + 1) y) ((c2_bplace_v f (f 193 3)).toInt.toNat * 3 + 2) z)) (1 : Int32)), .inr (.inr (.inl (61, 193)))] (fl_row f 194 (upd (upd (upd (f 194) ((c2_bplace_v f (f 193 3)).toInt.toNat * 3) x) ((c2_bplace_v f (f 193 3)).toInt.toNat * 3 + 1) y) ((c2_bplace_v f (f 193 3)).toInt.toNat * 3 + 2) z), l) _
      refine fl_Tq.pfV (k := 2) (m' := (fl_row (fl_row f 194 (upd (upd (upd (f 194) ((c2_bplace_v f (f 193 3)).toInt.toNat * 3) x) ((c2_bplace_v f (f 193 3)).toInt.toNat * 3 + 1) y) ((c2_bplace_v f (f 193 3)).toInt.toNat * 3 + 2) z)) 193 (upd (f 193) 2 (c2_bplace_v (fl_row f 194 (upd (upd (upd (f 194) ((c2_bplace_v f (f 193 3)).toInt.toNat * 3) x) ((c2_bplace_v f (f 193 3)).toInt.toNat * 3 + 1) y) ((c2_bplace_v f (f 193 3)).toInt.toNat * 3 + 2) z)) (1 : Int32))), l)) rfl (fl_bo rfl) rfl (t2_upn (by rw [fl_row_ne (by decide : 193 ≠ 194)])) ?_
      have e0 : (fl_row (fl_row f 194 (upd (upd (upd (f 194) ((c2_bplace_v f (f 193 3)).toInt.toNat * 3) x) ((c2_bplace_v f (f 193 3)).toInt.toNat * 3 + 1) y) ((c2_bplace_v f (f 193 3)).toInt.toNat * 3 + 2) z)) 193 (upd (upd (f 193) 3 (c2_badd_j48_0 f x y z)) 2 (c2_badd_j48_1 f x y z))) = fl_row (fl_row f 194 (upd (upd (upd (f 194) ((c2_bplace_v f (f 193 3)).toInt.toNat * 3) x) ((c2_bplace_v f (f 193 3)).toInt.toNat * 3 + 1) y) ((c2_bplace_v f (f 193 3)).toInt.toNat * 3 + 2) z)) 193 (upd (f 193) 2 (c2_bplace_v (fl_row f 194 (upd (upd (upd (f 194) ((c2_bplace_v f (f 193 3)).toInt.toNat * 3) x) ((c2_bplace_v f (f 193 3)).toInt.toNat * 3 + 1) y) ((c2_bplace_v f (f 193 3)).toInt.toNat * 3 + 2) z)) (1 : Int32))) := by
        simp only [c2_badd_j48_0, c2_badd_j48_1, if_neg h1]
        funext q j
        simp only [fl_row, upd]
        repeat' split
        all_goals first | rfl | simp_all
      rw [e0] at hJ
      exact hJ
  refine hj91 ?_
  show fl_Tq _ 27 73 [some (.inr (.inr (.inl (61, 193)))), some (.inl x), some (.inl y), some (.inl z), some (.inl ((c2_bplace_v f (f 193 3)) * (3 : Int32)))] [] (fl_row (fl_row f 194 (upd (upd (upd (f 194) ((c2_bplace_v f (f 193 3)).toInt.toNat * 3) x) ((c2_bplace_v f (f 193 3)).toInt.toNat * 3 + 1) y) ((c2_bplace_v f (f 193 3)).toInt.toNat * 3 + 2) z)) 193 (upd (upd (f 193) 3 (c2_badd_j48_0 f x y z)) 2 (c2_badd_j48_1 f x y z)), l) _
  exact fl_Tq.ret rfl rfl rfl k
noncomputable def c2_tplace_j12_0 (f : t2_F) (x : Int32) : Int32 := if ((f 196 2) + x).toInt < (f 196 0).toInt then (f 196 2) + x else ((f 196 2) + x) - (f 196 0)
noncomputable def c2_tplace_v (f : t2_F) (x : Int32) : Int32 := c2_tplace_j12_0 f x
theorem c2_tplace_q {L : Nat} {xs : Nat → Int32} {f : t2_F} {l : t2_L} {Q : Option fl_V → fl_M → Prop} {x : Int32}  (k : Q (some (.inl (c2_tplace_v f x))) (f, l)) : fl_Tq (pw_P L xs) 29 0 (fl_args (am_mxl (pw_P L xs) 29) [.inr (.inr (.inl (64, 196))), .inl x]) [] (f, l) Q := by
  refine fl_Tq.stp (pc' := 1) (lv' := [some (.inr (.inr (.inl (64, 196)))), some (.inl x), none]) (st' := [.inr (.inr (.inl (64, 196)))]) (m' := (f, l)) rfl rfl (fl_bo rfl) rfl ?_
  refine fl_Tq.gfV (k := 2) (v := f 196 2) rfl (fl_bo rfl) rfl rfl ?_
  refine fl_Tq.stp (pc' := 5) (lv' := [some (.inr (.inr (.inl (64, 196)))), some (.inl x), none]) (st' := [.inl x, .inl (f 196 2)]) (m' := (f, l)) rfl rfl (fl_bo rfl) rfl ?_
  refine fl_Tq.stp (pc' := 6) (lv' := [some (.inr (.inr (.inl (64, 196)))), some (.inl x), none]) (st' := [.inl ((f 196 2) + x)]) (m' := (f, l)) rfl rfl (fl_bo rfl) rfl ?_
  refine fl_Tq.stp (pc' := 7) (lv' := [some (.inr (.inr (.inl (64, 196)))), some (.inl x), some (.inl ((f 196 2) + x))]) (st' := []) (m' := (f, l)) rfl rfl (fl_bo rfl) rfl ?_
  refine fl_Tq.stp (pc' := 8) (lv' := [some (.inr (.inr (.inl (64, 196)))), some (.inl x), some (.inl ((f 196 2) + x))]) (st' := [.inl ((f 196 2) + x)]) (m' := (f, l)) rfl rfl (fl_bo rfl) rfl ?_
  refine fl_Tq.stp (pc' := 9) (lv' := [some (.inr (.inr (.inl (64, 196)))), some (.inl x), some (.inl ((f 196 2) + x))]) (st' := [.inr (.inr (.inl (64, 196))), .inl ((f 196 2) + x)]) (m' := (f, l)) rfl rfl (fl_bo rfl) rfl ?_
  refine fl_Tq.gfV (k := 0) (v := f 196 0) rfl (fl_bo rfl) rfl rfl ?_
  have hj92 : fl_Tq (pw_P L xs) 29 25 [some (.inr (.inr (.inl (64, 196)))), some (.inl x), some (.inl ((f 196 2) + x))] [.inl (c2_tplace_j12_0 f x)] (f, l) Q → fl_Tq (pw_P L xs) 29 12 [some (.inr (.inr (.inl (64, 196)))), some (.inl x), some (.inl ((f 196 2) + x))] [.inl (f 196 0), .inl ((f 196 2) + x)] (f, l) Q := by
    intro hJ
    by_cases h1 : ((f 196 2) + x).toInt < (f 196 0).toInt
    · refine fl_Tq.jt rfl (fl_bo rfl) (c2_lt_t h1) rfl ?_
      refine fl_Tq.stp (pc' := 25) (lv' := [some (.inr (.inr (.inl (64, 196)))), some (.inl x), some (.inl ((f 196 2) + x))]) (st' := [.inl ((f 196 2) + x)]) (m' := (f, l)) rfl rfl (fl_bo rfl) rfl ?_
      have e0 : (c2_tplace_j12_0 f x) = (f 196 2) + x := by simp only [c2_tplace_j12_0, if_pos h1]
      rw [e0] at hJ
      exact hJ
    · refine fl_Tq.jf rfl (fl_bo rfl) (c2_lt_f h1) rfl ?_
      refine fl_Tq.stp (pc' := 16) (lv' := [some (.inr (.inr (.inl (64, 196)))), some (.inl x), some (.inl ((f 196 2) + x))]) (st' := [.inl ((f 196 2) + x)]) (m' := (f, l)) rfl rfl (fl_bo rfl) rfl ?_
      refine fl_Tq.stp (pc' := 17) (lv' := [some (.inr (.inr (.inl (64, 196)))), some (.inl x), some (.inl ((f 196 2) + x))]) (st' := [.inr (.inr (.inl (64, 196))), .inl ((f 196 2) + x)]) (m' := (f, l)) rfl rfl (fl_bo rfl) rfl ?_
      refine fl_Tq.gfV (k := 0) (v := f 196 0) rfl (fl_bo rfl) rfl rfl ?_
      refine fl_Tq.stp (pc' := 21) (lv' := [some (.inr (.inr (.inl (64, 196)))), some (.inl x), some (.inl ((f 196 2) + x))]) (st' := [.inl (((f 196 2) + x) - (f 196 0))]) (m' := (f, l)) rfl rfl (fl_bo rfl) rfl ?_
      refine fl_Tq.stp (pc' := 25) (lv' := [some (.inr (.inr (.inl (64, 196)))), some (.inl x), some (.inl ((f 196 2) + x))]) (st' := [.inl (((f 196 2) + x) - (f 196 0))]) (m' := (f, l)) rfl rfl (fl_bo rfl) rfl ?_
      have e0 : (c2_tplace_j12_0 f x) = ((f 196 2) + x) - (f 196 0) := by simp only [c2_tplace_j12_0, if_neg h1]
      rw [e0] at hJ
      exact hJ
  refine hj92 ?_
  show fl_Tq _ 29 25 [some (.inr (.inr (.inl (64, 196)))), some (.inl x), some (.inl ((f 196 2) + x))] [.inl (c2_tplace_j12_0 f x)] (f, l) _
  exact fl_Tq.ret rfl rfl rfl k
theorem c2_tplace_b {f : t2_F} {x : Int32} (hl : f 196 0 = (32 : Int32) ∧ (0 ≤ (f 196 2).toInt ∧ (f 196 2).toInt ≤ 31) ∧ (0 ≤ (f 196 3).toInt ∧ (f 196 3).toInt ≤ 32)) (hx : 0 ≤ x.toInt ∧ x.toInt ≤ 32) : 0 ≤ (c2_tplace_v f x).toInt ∧ (c2_tplace_v f x).toInt ≤ 31 := by
  have e : (32 : Int32).toInt = 32 := by decide +kernel
  obtain ⟨h1, h2, h3⟩ := hl
  have e2 : (f 196 2 + x).toInt = (f 196 2).toInt + x.toInt := at_add32 (by omega) (by omega)
  unfold c2_tplace_v c2_tplace_j12_0
  rw [h1]
  split
  · omega
  · rename_i h
    rw [at_sub32 (by omega) (by omega)]
    omega
noncomputable def c2_tadd_j48_0 (f : t2_F) (x y z : Int32) : Int32 := if (f 196 3).toInt < (f 196 0).toInt then (f 196 3) + (1 : Int32) else f 196 3
noncomputable def c2_tadd_j48_1 (f : t2_F) (x y z : Int32) : Int32 := if (f 196 3).toInt < (f 196 0).toInt then f 196 2 else c2_tplace_v (fl_row f 197 (upd (upd (upd (f 197) ((c2_tplace_v f (f 196 3)).toInt.toNat * 3) x) ((c2_tplace_v f (f 196 3)).toInt.toNat * 3 + 1) y) ((c2_tplace_v f (f 196 3)).toInt.toNat * 3 + 2) z)) (1 : Int32)
noncomputable def c2_tadd_m (f : t2_F) (x y z : Int32) : t2_F := fl_row (fl_row f 197 (upd (upd (upd (f 197) ((c2_tplace_v f (f 196 3)).toInt.toNat * 3) x) ((c2_tplace_v f (f 196 3)).toInt.toNat * 3 + 1) y) ((c2_tplace_v f (f 196 3)).toInt.toNat * 3 + 2) z)) 196 (upd (upd (f 196) 3 (c2_tadd_j48_0 f x y z)) 2 (c2_tadd_j48_1 f x y z))
theorem c2_tadd_fr {f : t2_F} {x y z : Int32} {p : Nat} (e0 : p ≠ 197) (e1 : p ≠ 196) : c2_tadd_m f x y z p = f p := by
  unfold c2_tadd_m
  repeat' split
  all_goals first | rfl | simp only [fl_row_ne e0, fl_row_ne e1]
theorem c2_tadd_q {L : Nat} {xs : Nat → Int32} {f : t2_F} {l : t2_L} {Q : Option fl_V → fl_M → Prop} {x y z : Int32} (hl : f 196 0 = (32 : Int32) ∧ (0 ≤ (f 196 2).toInt ∧ (f 196 2).toInt ≤ 31) ∧ (0 ≤ (f 196 3).toInt ∧ (f 196 3).toInt ≤ 32)) (k : Q none (c2_tadd_m f x y z, l)) : fl_Tq (pw_P L xs) 27 0 (fl_args (am_mxl (pw_P L xs) 27) [.inr (.inr (.inl (64, 196))), .inl x, .inl y, .inl z]) [] (f, l) Q := by
  refine fl_Tq.stp (pc' := 1) (lv' := [some (.inr (.inr (.inl (64, 196)))), some (.inl x), some (.inl y), some (.inl z), none]) (st' := [.inr (.inr (.inl (64, 196)))]) (m' := (f, l)) rfl rfl (fl_bo rfl) rfl ?_
  refine fl_Tq.stp (pc' := 2) (lv' := [some (.inr (.inr (.inl (64, 196)))), some (.inl x), some (.inl y), some (.inl z), none]) (st' := [.inr (.inr (.inl (64, 196))), .inr (.inr (.inl (64, 196)))]) (m' := (f, l)) rfl rfl (fl_bo rfl) rfl ?_
  refine fl_Tq.gfV (k := 3) (v := f 196 3) rfl (fl_bo rfl) rfl rfl ?_
  refine fl_Tq.cal rfl rfl (fl_bo rfl) rfl ?_
  refine c2_tplace_q  ?_
  show fl_Tq _ 27 8 [some (.inr (.inr (.inl (64, 196)))), some (.inl x), some (.inl y), some (.inl z), none] [.inl (c2_tplace_v f (f 196 3))] (f, l) _
  refine fl_Tq.cI (c := (3 : Int32)) rfl (by decide +kernel) (fl_bo rfl) ?_
  refine fl_Tq.stp (pc' := 10) (lv' := [some (.inr (.inr (.inl (64, 196)))), some (.inl x), some (.inl y), some (.inl z), none]) (st' := [.inl ((c2_tplace_v f (f 196 3)) * (3 : Int32))]) (m' := (f, l)) rfl rfl (fl_bo rfl) rfl ?_
  refine fl_Tq.stp (pc' := 12) (lv' := [some (.inr (.inr (.inl (64, 196)))), some (.inl x), some (.inl y), some (.inl z), some (.inl ((c2_tplace_v f (f 196 3)) * (3 : Int32)))]) (st' := []) (m' := (f, l)) rfl rfl (fl_bo rfl) rfl ?_
  refine fl_Tq.stp (pc' := 13) (lv' := [some (.inr (.inr (.inl (64, 196)))), some (.inl x), some (.inl y), some (.inl z), some (.inl ((c2_tplace_v f (f 196 3)) * (3 : Int32)))]) (st' := [.inr (.inr (.inl (64, 196)))]) (m' := (f, l)) rfl rfl (fl_bo rfl) rfl ?_
  refine fl_Tq.stp (pc' := 16) (lv' := [some (.inr (.inr (.inl (64, 196)))), some (.inl x), some (.inl y), some (.inl z), some (.inl ((c2_tplace_v f (f 196 3)) * (3 : Int32)))]) (st' := [.inr (.inr (.inl (65, 197)))]) (m' := (f, l)) rfl rfl (fl_bo rfl) rfl ?_
  refine fl_Tq.stp (pc' := 18) (lv' := [some (.inr (.inr (.inl (64, 196)))), some (.inl x), some (.inl y), some (.inl z), some (.inl ((c2_tplace_v f (f 196 3)) * (3 : Int32)))]) (st' := [.inl ((c2_tplace_v f (f 196 3)) * (3 : Int32)), .inr (.inr (.inl (65, 197)))]) (m' := (f, l)) rfl rfl (fl_bo rfl) rfl ?_
  refine fl_Tq.stp (pc' := 19) (lv' := [some (.inr (.inr (.inl (64, 196)))), some (.inl x), some (.inl y), some (.inl z), some (.inl ((c2_tplace_v f (f 196 3)) * (3 : Int32)))]) (st' := [.inl x, .inl ((c2_tplace_v f (f 196 3)) * (3 : Int32)), .inr (.inr (.inl (65, 197)))]) (m' := (f, l)) rfl rfl (fl_bo rfl) rfl ?_
  refine fl_Tq.svV (p := 197) (τ := 65) (n := 96) (z := (0, 0, 0)) (k := (c2_tplace_v f (f 196 3)).toInt.toNat * 3) (m' := (fl_row f 197 (upd (f 197) ((c2_tplace_v f (f 196 3)).toInt.toNat * 3) x), l)) rfl (fl_bo rfl) rfl (t2_im (have hb := (c2_tplace_b hl hl.2.2); t2_nn hb.1) (by decide +kernel) (by have hb := (c2_tplace_b hl hl.2.2); omega)) (by have hb := (c2_tplace_b hl hl.2.2); omega) (t2_upn rfl) ?_
  refine fl_Tq.stp (pc' := 21) (lv' := [some (.inr (.inr (.inl (64, 196)))), some (.inl x), some (.inl y), some (.inl z), some (.inl ((c2_tplace_v f (f 196 3)) * (3 : Int32)))]) (st' := [.inr (.inr (.inl (64, 196)))]) (m' := (fl_row f 197 (upd (f 197) ((c2_tplace_v f (f 196 3)).toInt.toNat * 3) x), l)) rfl rfl (fl_bo rfl) rfl ?_
  refine fl_Tq.stp (pc' := 24) (lv' := [some (.inr (.inr (.inl (64, 196)))), some (.inl x), some (.inl y), some (.inl z), some (.inl ((c2_tplace_v f (f 196 3)) * (3 : Int32)))]) (st' := [.inr (.inr (.inl (65, 197)))]) (m' := (fl_row f 197 (upd (f 197) ((c2_tplace_v f (f 196 3)).toInt.toNat * 3) x), l)) rfl rfl (fl_bo rfl) rfl ?_
  refine fl_Tq.stp (pc' := 26) (lv' := [some (.inr (.inr (.inl (64, 196)))), some (.inl x), some (.inl y), some (.inl z), some (.inl ((c2_tplace_v f (f 196 3)) * (3 : Int32)))]) (st' := [.inl ((c2_tplace_v f (f 196 3)) * (3 : Int32)), .inr (.inr (.inl (65, 197)))]) (m' := (fl_row f 197 (upd (f 197) ((c2_tplace_v f (f 196 3)).toInt.toNat * 3) x), l)) rfl rfl (fl_bo rfl) rfl ?_
  refine fl_Tq.cI (c := (1 : Int32)) rfl (by decide +kernel) (fl_bo rfl) ?_
  refine fl_Tq.stp (pc' := 28) (lv' := [some (.inr (.inr (.inl (64, 196)))), some (.inl x), some (.inl y), some (.inl z), some (.inl ((c2_tplace_v f (f 196 3)) * (3 : Int32)))]) (st' := [.inl (((c2_tplace_v f (f 196 3)) * (3 : Int32)) + (1 : Int32)), .inr (.inr (.inl (65, 197)))]) (m' := (fl_row f 197 (upd (f 197) ((c2_tplace_v f (f 196 3)).toInt.toNat * 3) x), l)) rfl rfl (fl_bo rfl) rfl ?_
  refine fl_Tq.stp (pc' := 29) (lv' := [some (.inr (.inr (.inl (64, 196)))), some (.inl x), some (.inl y), some (.inl z), some (.inl ((c2_tplace_v f (f 196 3)) * (3 : Int32)))]) (st' := [.inl y, .inl (((c2_tplace_v f (f 196 3)) * (3 : Int32)) + (1 : Int32)), .inr (.inr (.inl (65, 197)))]) (m' := (fl_row f 197 (upd (f 197) ((c2_tplace_v f (f 196 3)).toInt.toNat * 3) x), l)) rfl rfl (fl_bo rfl) rfl ?_
  refine fl_Tq.svV (p := 197) (τ := 65) (n := 96) (z := (0, 0, 0)) (k := (c2_tplace_v f (f 196 3)).toInt.toNat * 3 + 1) (m' := (fl_row f 197 (upd (upd (f 197) ((c2_tplace_v f (f 196 3)).toInt.toNat * 3) x) ((c2_tplace_v f (f 196 3)).toInt.toNat * 3 + 1) y), l)) rfl (fl_bo rfl) rfl (t2_ia (t2_im (have hb := (c2_tplace_b hl hl.2.2); t2_nn hb.1) (by decide +kernel) (by have hb := (c2_tplace_b hl hl.2.2); omega)) (by decide +kernel) (by have hb := (c2_tplace_b hl hl.2.2); omega)) (by have hb := (c2_tplace_b hl hl.2.2); omega) (t2_upr) ?_
  refine fl_Tq.stp (pc' := 31) (lv' := [some (.inr (.inr (.inl (64, 196)))), some (.inl x), some (.inl y), some (.inl z), some (.inl ((c2_tplace_v f (f 196 3)) * (3 : Int32)))]) (st' := [.inr (.inr (.inl (64, 196)))]) (m' := (fl_row f 197 (upd (upd (f 197) ((c2_tplace_v f (f 196 3)).toInt.toNat * 3) x) ((c2_tplace_v f (f 196 3)).toInt.toNat * 3 + 1) y), l)) rfl rfl (fl_bo rfl) rfl ?_
  refine fl_Tq.stp (pc' := 34) (lv' := [some (.inr (.inr (.inl (64, 196)))), some (.inl x), some (.inl y), some (.inl z), some (.inl ((c2_tplace_v f (f 196 3)) * (3 : Int32)))]) (st' := [.inr (.inr (.inl (65, 197)))]) (m' := (fl_row f 197 (upd (upd (f 197) ((c2_tplace_v f (f 196 3)).toInt.toNat * 3) x) ((c2_tplace_v f (f 196 3)).toInt.toNat * 3 + 1) y), l)) rfl rfl (fl_bo rfl) rfl ?_
  refine fl_Tq.stp (pc' := 36) (lv' := [some (.inr (.inr (.inl (64, 196)))), some (.inl x), some (.inl y), some (.inl z), some (.inl ((c2_tplace_v f (f 196 3)) * (3 : Int32)))]) (st' := [.inl ((c2_tplace_v f (f 196 3)) * (3 : Int32)), .inr (.inr (.inl (65, 197)))]) (m' := (fl_row f 197 (upd (upd (f 197) ((c2_tplace_v f (f 196 3)).toInt.toNat * 3) x) ((c2_tplace_v f (f 196 3)).toInt.toNat * 3 + 1) y), l)) rfl rfl (fl_bo rfl) rfl ?_
  refine fl_Tq.cI (c := (2 : Int32)) rfl (by decide +kernel) (fl_bo rfl) ?_
  refine fl_Tq.stp (pc' := 38) (lv' := [some (.inr (.inr (.inl (64, 196)))), some (.inl x), some (.inl y), some (.inl z), some (.inl ((c2_tplace_v f (f 196 3)) * (3 : Int32)))]) (st' := [.inl (((c2_tplace_v f (f 196 3)) * (3 : Int32)) + (2 : Int32)), .inr (.inr (.inl (65, 197)))]) (m' := (fl_row f 197 (upd (upd (f 197) ((c2_tplace_v f (f 196 3)).toInt.toNat * 3) x) ((c2_tplace_v f (f 196 3)).toInt.toNat * 3 + 1) y), l)) rfl rfl (fl_bo rfl) rfl ?_
  refine fl_Tq.stp (pc' := 39) (lv' := [some (.inr (.inr (.inl (64, 196)))), some (.inl x), some (.inl y), some (.inl z), some (.inl ((c2_tplace_v f (f 196 3)) * (3 : Int32)))]) (st' := [.inl z, .inl (((c2_tplace_v f (f 196 3)) * (3 : Int32)) + (2 : Int32)), .inr (.inr (.inl (65, 197)))]) (m' := (fl_row f 197 (upd (upd (f 197) ((c2_tplace_v f (f 196 3)).toInt.toNat * 3) x) ((c2_tplace_v f (f 196 3)).toInt.toNat * 3 + 1) y), l)) rfl rfl (fl_bo rfl) rfl ?_
  refine fl_Tq.svV (p := 197) (τ := 65) (n := 96) (z := (0, 0, 0)) (k := (c2_tplace_v f (f 196 3)).toInt.toNat * 3 + 2) (m' := (fl_row f 197 (upd (upd (upd (f 197) ((c2_tplace_v f (f 196 3)).toInt.toNat * 3) x) ((c2_tplace_v f (f 196 3)).toInt.toNat * 3 + 1) y) ((c2_tplace_v f (f 196 3)).toInt.toNat * 3 + 2) z), l)) rfl (fl_bo rfl) rfl (t2_ia (t2_im (have hb := (c2_tplace_b hl hl.2.2); t2_nn hb.1) (by decide +kernel) (by have hb := (c2_tplace_b hl hl.2.2); omega)) (by decide +kernel) (by have hb := (c2_tplace_b hl hl.2.2); omega)) (by have hb := (c2_tplace_b hl hl.2.2); omega) (t2_upr) ?_
  refine fl_Tq.stp (pc' := 41) (lv' := [some (.inr (.inr (.inl (64, 196)))), some (.inl x), some (.inl y), some (.inl z), some (.inl ((c2_tplace_v f (f 196 3)) * (3 : Int32)))]) (st' := [.inr (.inr (.inl (64, 196)))]) (m' := (fl_row f 197 (upd (upd (upd (f 197) ((c2_tplace_v f (f 196 3)).toInt.toNat * 3) x) ((c2_tplace_v f (f 196 3)).toInt.toNat * 3 + 1) y) ((c2_tplace_v f (f 196 3)).toInt.toNat * 3 + 2) z), l)) rfl rfl (fl_bo rfl) rfl ?_
  refine fl_Tq.gfV (k := 3) (v := f 196 3) rfl (fl_bo rfl) rfl (by simp only [fl_row_ne (by decide : 196 ≠ 197)]) ?_
  refine fl_Tq.stp (pc' := 45) (lv' := [some (.inr (.inr (.inl (64, 196)))), some (.inl x), some (.inl y), some (.inl z), some (.inl ((c2_tplace_v f (f 196 3)) * (3 : Int32)))]) (st' := [.inr (.inr (.inl (64, 196))), .inl (f 196 3)]) (m' := (fl_row f 197 (upd (upd (upd (f 197) ((c2_tplace_v f (f 196 3)).toInt.toNat * 3) x) ((c2_tplace_v f (f 196 3)).toInt.toNat * 3 + 1) y) ((c2_tplace_v f (f 196 3)).toInt.toNat * 3 + 2) z), l)) rfl rfl (fl_bo rfl) rfl ?_
  refine fl_Tq.gfV (k := 0) (v := f 196 0) rfl (fl_bo rfl) rfl (by simp only [fl_row_ne (by decide : 196 ≠ 197)]) ?_
  have hj93 : fl_Tq (pw_P L xs) 27 73 [some (.inr (.inr (.inl (64, 196)))), some (.inl x), some (.inl y), some (.inl z), some (.inl ((c2_tplace_v f (f 196 3)) * (3 : Int32)))] [] (fl_row (fl_row f 197 (upd (upd (upd (f 197) ((c2_tplace_v f (f 196 3)).toInt.toNat * 3) x) ((c2_tplace_v f (f 196 3)).toInt.toNat * 3 + 1) y) ((c2_tplace_v f (f 196 3)).toInt.toNat * 3 + 2) z)) 196 (upd (upd (f 196) 3 (c2_tadd_j48_0 f x y z)) 2 (c2_tadd_j48_1 f x y z)), l) Q → fl_Tq (pw_P L xs) 27 48 [some (.inr (.inr (.inl (64, 196)))), some (.inl x), some (.inl y), some (.inl z), some (.inl ((c2_tplace_v f (f 196 3)) * (3 : Int32)))] [.inl (f 196 0), .inl (f 196 3)] (fl_row f 197 (upd (upd (upd (f 197) ((c2_tplace_v f (f 196 3)).toInt.toNat * 3) x) ((c2_tplace_v f (f 196 3)).toInt.toNat * 3 + 1) y) ((c2_tplace_v f (f 196 3)).toInt.toNat * 3 + 2) z), l) Q := by
    intro hJ
    by_cases h1 : (f 196 3).toInt < (f 196 0).toInt
    · refine fl_Tq.jf rfl (fl_bo rfl) (c2_ge_f h1) rfl ?_
      refine fl_Tq.stp (pc' := 52) (lv' := [some (.inr (.inr (.inl (64, 196)))), some (.inl x), some (.inl y), some (.inl z), some (.inl ((c2_tplace_v f (f 196 3)) * (3 : Int32)))]) (st' := [.inr (.inr (.inl (64, 196)))]) (m' := (fl_row f 197 (upd (upd (upd (f 197) ((c2_tplace_v f (f 196 3)).toInt.toNat * 3) x) ((c2_tplace_v f (f 196 3)).toInt.toNat * 3 + 1) y) ((c2_tplace_v f (f 196 3)).toInt.toNat * 3 + 2) z), l)) rfl rfl (fl_bo rfl) rfl ?_
      refine fl_Tq.stp (pc' := 53) (lv' := [some (.inr (.inr (.inl (64, 196)))), some (.inl x), some (.inl y), some (.inl z), some (.inl ((c2_tplace_v f (f 196 3)) * (3 : Int32)))]) (st' := [.inr (.inr (.inl (64, 196))), .inr (.inr (.inl (64, 196)))]) (m' := (fl_row f 197 (upd (upd (upd (f 197) ((c2_tplace_v f (f 196 3)).toInt.toNat * 3) x) ((c2_tplace_v f (f 196 3)).toInt.toNat * 3 + 1) y) ((c2_tplace_v f (f 196 3)).toInt.toNat * 3 + 2) z), l)) rfl rfl (fl_bo rfl) rfl ?_
      refine fl_Tq.gfV (k := 3) (v := f 196 3) rfl (fl_bo rfl) rfl (by simp only [fl_row_ne (by decide : 196 ≠ 197)]) ?_
      refine fl_Tq.cI (c := (1 : Int32)) rfl (by decide +kernel) (fl_bo rfl) ?_
      refine fl_Tq.stp (pc' := 58) (lv' := [some (.inr (.inr (.inl (64, 196)))), some (.inl x), some (.inl y), some (.inl z), some (.inl ((c2_tplace_v f (f 196 3)) * (3 : Int32)))]) (st' := [.inl ((f 196 3) + (1 : Int32)), .inr (.inr (.inl (64, 196)))]) (m' := (fl_row f 197 (upd (upd (upd (f 197) ((c2_tplace_v f (f 196 3)).toInt.toNat * 3) x) ((c2_tplace_v f (f 196 3)).toInt.toNat * 3 + 1) y) ((c2_tplace_v f (f 196 3)).toInt.toNat * 3 + 2) z), l)) rfl rfl (fl_bo rfl) rfl ?_
      refine fl_Tq.pfV (k := 3) (m' := (fl_row (fl_row f 197 (upd (upd (upd (f 197) ((c2_tplace_v f (f 196 3)).toInt.toNat * 3) x) ((c2_tplace_v f (f 196 3)).toInt.toNat * 3 + 1) y) ((c2_tplace_v f (f 196 3)).toInt.toNat * 3 + 2) z)) 196 (upd (f 196) 3 ((f 196 3) + (1 : Int32))), l)) rfl (fl_bo rfl) rfl (t2_upn (by rw [fl_row_ne (by decide : 196 ≠ 197)])) ?_
      refine fl_Tq.stp (pc' := 73) (lv' := [some (.inr (.inr (.inl (64, 196)))), some (.inl x), some (.inl y), some (.inl z), some (.inl ((c2_tplace_v f (f 196 3)) * (3 : Int32)))]) (st' := []) (m' := (fl_row (fl_row f 197 (upd (upd (upd (f 197) ((c2_tplace_v f (f 196 3)).toInt.toNat * 3) x) ((c2_tplace_v f (f 196 3)).toInt.toNat * 3 + 1) y) ((c2_tplace_v f (f 196 3)).toInt.toNat * 3 + 2) z)) 196 (upd (f 196) 3 ((f 196 3) + (1 : Int32))), l)) rfl rfl (fl_bo rfl) rfl ?_
      have e0 : (fl_row (fl_row f 197 (upd (upd (upd (f 197) ((c2_tplace_v f (f 196 3)).toInt.toNat * 3) x) ((c2_tplace_v f (f 196 3)).toInt.toNat * 3 + 1) y) ((c2_tplace_v f (f 196 3)).toInt.toNat * 3 + 2) z)) 196 (upd (upd (f 196) 3 (c2_tadd_j48_0 f x y z)) 2 (c2_tadd_j48_1 f x y z))) = fl_row (fl_row f 197 (upd (upd (upd (f 197) ((c2_tplace_v f (f 196 3)).toInt.toNat * 3) x) ((c2_tplace_v f (f 196 3)).toInt.toNat * 3 + 1) y) ((c2_tplace_v f (f 196 3)).toInt.toNat * 3 + 2) z)) 196 (upd (f 196) 3 ((f 196 3) + (1 : Int32))) := by
        simp only [c2_tadd_j48_0, c2_tadd_j48_1, if_pos h1]
        funext q j
        simp only [fl_row, upd]
        repeat' split
        all_goals first | rfl | simp_all
      rw [e0] at hJ
      exact hJ
    · refine fl_Tq.jt rfl (fl_bo rfl) (c2_ge_t h1) rfl ?_
      refine fl_Tq.stp (pc' := 65) (lv' := [some (.inr (.inr (.inl (64, 196)))), some (.inl x), some (.inl y), some (.inl z), some (.inl ((c2_tplace_v f (f 196 3)) * (3 : Int32)))]) (st' := [.inr (.inr (.inl (64, 196)))]) (m' := (fl_row f 197 (upd (upd (upd (f 197) ((c2_tplace_v f (f 196 3)).toInt.toNat * 3) x) ((c2_tplace_v f (f 196 3)).toInt.toNat * 3 + 1) y) ((c2_tplace_v f (f 196 3)).toInt.toNat * 3 + 2) z), l)) rfl rfl (fl_bo rfl) rfl ?_
      refine fl_Tq.stp (pc' := 66) (lv' := [some (.inr (.inr (.inl (64, 196)))), some (.inl x), some (.inl y), some (.inl z), some (.inl ((c2_tplace_v f (f 196 3)) * (3 : Int32)))]) (st' := [.inr (.inr (.inl (64, 196))), .inr (.inr (.inl (64, 196)))]) (m' := (fl_row f 197 (upd (upd (upd (f 197) ((c2_tplace_v f (f 196 3)).toInt.toNat * 3) x) ((c2_tplace_v f (f 196 3)).toInt.toNat * 3 + 1) y) ((c2_tplace_v f (f 196 3)).toInt.toNat * 3 + 2) z), l)) rfl rfl (fl_bo rfl) rfl ?_
      refine fl_Tq.cI (c := (1 : Int32)) rfl (by decide +kernel) (fl_bo rfl) ?_
      refine fl_Tq.cal rfl rfl (fl_bo rfl) rfl ?_
      refine c2_tplace_q  ?_
      show fl_Tq _ 27 70 [some (.inr (.inr (.inl (64, 196)))), some (.inl x), some (.inl y), some (.inl z), some (.inl ((c2_tplace_v f (f 196 3)) * (3 : Int32)))] [.inl (c2_tplace_v (fl_row f 197 (upd (upd (upd (f 197) ((c2_tplace_v f (f 196 3)).toInt.toNat * 3) x) ((c2_tplace_v f (f 196 3)).toInt.toNat * 3 + 1) y) ((c2_tplace_v f (f 196 3)).toInt.toNat * 3 + 2) z)) (1 : Int32)), .inr (.inr (.inl (64, 196)))] (fl_row f 197 (upd (upd (upd (f 197) ((c2_tplace_v f (f 196 3)).toInt.toNat * 3) x) ((c2_tplace_v f (f 196 3)).toInt.toNat * 3 + 1) y) ((c2_tplace_v f (f 196 3)).toInt.toNat * 3 + 2) z), l) _
      refine fl_Tq.pfV (k := 2) (m' := (fl_row (fl_row f 197 (upd (upd (upd (f 197) ((c2_tplace_v f (f 196 3)).toInt.toNat * 3) x) ((c2_tplace_v f (f 196 3)).toInt.toNat * 3 + 1) y) ((c2_tplace_v f (f 196 3)).toInt.toNat * 3 + 2) z)) 196 (upd (f 196) 2 (c2_tplace_v (fl_row f 197 (upd (upd (upd (f 197) ((c2_tplace_v f (f 196 3)).toInt.toNat * 3) x) ((c2_tplace_v f (f 196 3)).toInt.toNat * 3 + 1) y) ((c2_tplace_v f (f 196 3)).toInt.toNat * 3 + 2) z)) (1 : Int32))), l)) rfl (fl_bo rfl) rfl (t2_upn (by rw [fl_row_ne (by decide : 196 ≠ 197)])) ?_
      have e0 : (fl_row (fl_row f 197 (upd (upd (upd (f 197) ((c2_tplace_v f (f 196 3)).toInt.toNat * 3) x) ((c2_tplace_v f (f 196 3)).toInt.toNat * 3 + 1) y) ((c2_tplace_v f (f 196 3)).toInt.toNat * 3 + 2) z)) 196 (upd (upd (f 196) 3 (c2_tadd_j48_0 f x y z)) 2 (c2_tadd_j48_1 f x y z))) = fl_row (fl_row f 197 (upd (upd (upd (f 197) ((c2_tplace_v f (f 196 3)).toInt.toNat * 3) x) ((c2_tplace_v f (f 196 3)).toInt.toNat * 3 + 1) y) ((c2_tplace_v f (f 196 3)).toInt.toNat * 3 + 2) z)) 196 (upd (f 196) 2 (c2_tplace_v (fl_row f 197 (upd (upd (upd (f 197) ((c2_tplace_v f (f 196 3)).toInt.toNat * 3) x) ((c2_tplace_v f (f 196 3)).toInt.toNat * 3 + 1) y) ((c2_tplace_v f (f 196 3)).toInt.toNat * 3 + 2) z)) (1 : Int32))) := by
        simp only [c2_tadd_j48_0, c2_tadd_j48_1, if_neg h1]
        funext q j
        simp only [fl_row, upd]
        repeat' split
        all_goals first | rfl | simp_all
      rw [e0] at hJ
      exact hJ
  refine hj93 ?_
  show fl_Tq _ 27 73 [some (.inr (.inr (.inl (64, 196)))), some (.inl x), some (.inl y), some (.inl z), some (.inl ((c2_tplace_v f (f 196 3)) * (3 : Int32)))] [] (fl_row (fl_row f 197 (upd (upd (upd (f 197) ((c2_tplace_v f (f 196 3)).toInt.toNat * 3) x) ((c2_tplace_v f (f 196 3)).toInt.toNat * 3 + 1) y) ((c2_tplace_v f (f 196 3)).toInt.toNat * 3 + 2) z)) 196 (upd (upd (f 196) 3 (c2_tadd_j48_0 f x y z)) 2 (c2_tadd_j48_1 f x y z)), l) _
  exact fl_Tq.ret rfl rfl rfl k

end
