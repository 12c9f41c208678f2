/-! 91.10.g6b.lean.txt -/
section
theorem c0_worstCell_b {f : t2_F} {x : Int32} (k : Nat) : k ≤ 16 → ((c0_worstCell_a8 f x k).1).toInt = -1 ∨ (0 ≤ ((c0_worstCell_a8 f x k).1).toInt ∧ ((c0_worstCell_a8 f x k).1).toInt < k) := by
  induction k with
  | zero =>
    intro _
    left
    show (-1 : Int32).toInt = -1
    decide +kernel
  | succ k ih =>
    intro hk
    have ih := ih (by omega)
    have e : (Int32.ofNat k).toInt = k := at_ofN (by omega)
    unfold c0_worstCell_a8
    dsimp only
    repeat' split
    all_goals omega
theorem c0_worstCell_vb {f : t2_F} {x : Int32} (hc : 0 ≤ (f 1 5).toInt ∧ (f 1 5).toInt ≤ 16) : (c0_worstCell_v f x).toInt = -1 ∨ (0 ≤ (c0_worstCell_v f x).toInt ∧ (c0_worstCell_v f x).toInt < (f 1 5).toInt) := by
  have := c0_worstCell_b (f := f) (x := x) (f 1 5).toInt.toNat (by omega)
  unfold c0_worstCell_v
  omega
noncomputable def c0_limitOf_j18_0 (f : t2_F) (x : Int32) : Int32 := if (c0_worstCell_v f x).toInt = (-1 : Int32).toInt then f 4 4 else t2_min_v (f 4 4) (c0_ownLimit_v f ((c0_worstCell_v f x).toInt.toNat) x)
noncomputable def c0_limitOf_v (f : t2_F) (x : Int32) : Int32 := c0_limitOf_j18_0 f x
theorem c0_limitOf_q {L : Nat} {xs : Nat → Int32} {f : t2_F} {l : t2_L} {Q : Option fl_V → fl_M → Prop} {x : Int32} (hc : 0 ≤ (f 1 5).toInt ∧ (f 1 5).toInt ≤ 16) (hz : 0 ≤ (f 3 6).toInt ∧ (f 3 6).toInt ≤ 6) (k : Q (some (.inl (c0_limitOf_v f x))) (f, l)) : fl_Tq (pw_P L xs) 50 0 (fl_args (am_mxl (pw_P L xs) 50) [.inr (.inr (.inl (1, 1))), .inl x]) [] (f, l) Q := by
  refine fl_Tq.stp (pc' := 1) (lv' := [some (.inr (.inr (.inl (1, 1)))), some (.inl x), none, none]) (st' := [.inr (.inr (.inl (1, 1)))]) (m' := (f, l)) rfl rfl (fl_bo rfl) rfl ?_
  refine fl_Tq.stp (pc' := 4) (lv' := [some (.inr (.inr (.inl (1, 1)))), some (.inl x), none, none]) (st' := [.inr (.inr (.inl (3, 3)))]) (m' := (f, l)) rfl rfl (fl_bo rfl) rfl ?_
  refine fl_Tq.stp (pc' := 7) (lv' := [some (.inr (.inr (.inl (1, 1)))), some (.inl x), none, none]) (st' := [.inr (.inr (.inl (4, 4)))]) (m' := (f, l)) rfl rfl (fl_bo rfl) rfl ?_
  refine fl_Tq.cI (c := (4 : Int32)) rfl (by decide +kernel) (fl_bo rfl) ?_
  refine fl_Tq.ldV (p := 4) (τ := 4) (n := 30) (z := (0, 0, 0)) (k := 4) (v := f 4 4) rfl (fl_bo rfl) rfl (by decide +kernel) (by decide) rfl ?_
  refine fl_Tq.stp (pc' := 10) (lv' := [some (.inr (.inr (.inl (1, 1)))), some (.inl x), some (.inl (f 4 4)), none]) (st' := []) (m' := (f, l)) rfl rfl (fl_bo rfl) rfl ?_
  refine fl_Tq.stp (pc' := 11) (lv' := [some (.inr (.inr (.inl (1, 1)))), some (.inl x), some (.inl (f 4 4)), none]) (st' := [.inr (.inr (.inl (1, 1)))]) (m' := (f, l)) rfl rfl (fl_bo rfl) rfl ?_
  refine fl_Tq.stp (pc' := 12) (lv' := [some (.inr (.inr (.inl (1, 1)))), some (.inl x), some (.inl (f 4 4)), none]) (st' := [.inl x, .inr (.inr (.inl (1, 1)))]) (m' := (f, l)) rfl rfl (fl_bo rfl) rfl ?_
  refine fl_Tq.cal rfl rfl (fl_bo rfl) rfl ?_
  refine c0_worstCell_q hc hz ?_
  show fl_Tq _ 50 15 [some (.inr (.inr (.inl (1, 1)))), some (.inl x), some (.inl (f 4 4)), none] [.inl (c0_worstCell_v f x)] (f, l) _
  refine fl_Tq.stp (pc' := 16) (lv' := [some (.inr (.inr (.inl (1, 1)))), some (.inl x), some (.inl (f 4 4)), some (.inl (c0_worstCell_v f x))]) (st' := []) (m' := (f, l)) rfl rfl (fl_bo rfl) rfl ?_
  refine fl_Tq.stp (pc' := 17) (lv' := [some (.inr (.inr (.inl (1, 1)))), some (.inl x), some (.inl (f 4 4)), some (.inl (c0_worstCell_v f x))]) (st' := [.inl (c0_worstCell_v f x)]) (m' := (f, l)) rfl rfl (fl_bo rfl) rfl ?_
  refine fl_Tq.cI (c := (-1 : Int32)) rfl (by decide +kernel) (fl_bo rfl) ?_
  have hj52 : fl_Tq (pw_P L xs) 50 43 [some (.inr (.inr (.inl (1, 1)))), some (.inl x), some (.inl (f 4 4)), some (.inl (c0_worstCell_v f x))] [.inl (c0_limitOf_j18_0 f x)] (f, l) Q → fl_Tq (pw_P L xs) 50 18 [some (.inr (.inr (.inl (1, 1)))), some (.inl x), some (.inl (f 4 4)), some (.inl (c0_worstCell_v f x))] [.inl (-1 : Int32), .inl (c0_worstCell_v f x)] (f, l) Q := by
    intro hJ
    by_cases h1 : (c0_worstCell_v f x).toInt = (-1 : Int32).toInt
    · refine fl_Tq.jf rfl (fl_bo rfl) (c2_ne_f h1) rfl ?_
      refine fl_Tq.stp (pc' := 22) (lv' := [some (.inr (.inr (.inl (1, 1)))), some (.inl x), some (.inl (f 4 4)), some (.inl (c0_worstCell_v f x))]) (st' := [.inl (f 4 4)]) (m' := (f, l)) rfl rfl (fl_bo rfl) rfl ?_
      refine fl_Tq.stp (pc' := 43) (lv' := [some (.inr (.inr (.inl (1, 1)))), some (.inl x), some (.inl (f 4 4)), some (.inl (c0_worstCell_v f x))]) (st' := [.inl (f 4 4)]) (m' := (f, l)) rfl rfl (fl_bo rfl) rfl ?_
      have e0 : (c0_limitOf_j18_0 f x) = f 4 4 := by simp only [c0_limitOf_j18_0, if_pos h1]
      rw [e0] at hJ
      exact hJ
    · refine fl_Tq.jt rfl (fl_bo rfl) (c2_ne_t h1) rfl ?_
      refine fl_Tq.stp (pc' := 26) (lv' := [some (.inr (.inr (.inl (1, 1)))), some (.inl x), some (.inl (f 4 4)), some (.inl (c0_worstCell_v f x))]) (st' := [.inl (f 4 4)]) (m' := (f, l)) rfl rfl (fl_bo rfl) rfl ?_
      refine fl_Tq.stp (pc' := 27) (lv' := [some (.inr (.inr (.inl (1, 1)))), some (.inl x), some (.inl (f 4 4)), some (.inl (c0_worstCell_v f x))]) (st' := [.inr (.inr (.inl (1, 1))), .inl (f 4 4)]) (m' := (f, l)) rfl rfl (fl_bo rfl) rfl ?_
      refine fl_Tq.stp (pc' := 30) (lv' := [some (.inr (.inr (.inl (1, 1)))), some (.inl x), some (.inl (f 4 4)), some (.inl (c0_worstCell_v f x))]) (st' := [.inr (.inr (.inl (2, 2))), .inl (f 4 4)]) (m' := (f, l)) rfl rfl (fl_bo rfl) rfl ?_
      refine fl_Tq.stp (pc' := 31) (lv' := [some (.inr (.inr (.inl (1, 1)))), some (.inl x), some (.inl (f 4 4)), some (.inl (c0_worstCell_v f x))]) (st' := [.inl (c0_worstCell_v f x), .inr (.inr (.inl (2, 2))), .inl (f 4 4)]) (m' := (f, l)) rfl rfl (fl_bo rfl) rfl ?_
      refine fl_Tq.qld (p := 2) (τ := 2) (n := 16) (t := 18) (b := 16) (d := 3) (k := (c0_worstCell_v f x).toInt.toNat) rfl (fl_bo rfl) rfl (t2_nn (by have e1 : (-1 : Int32).toInt = -1 := (by decide +kernel); have := c0_worstCell_vb (f := f) (x := x) hc; omega)) (by have e1 : (-1 : Int32).toInt = -1 := (by decide +kernel); have h16 := hc; have := c0_worstCell_vb (f := f) (x := x) hc; omega) ?_
      show fl_Tq _ 50 32 [some (.inr (.inr (.inl (1, 1)))), some (.inl x), some (.inl (f 4 4)), some (.inl (c0_worstCell_v f x))] [.inr (.inr (.inl (18, 18 + 4 * ((c0_worstCell_v f x).toInt.toNat)))), .inl (f 4 4)] (f, l) _
      refine fl_Tq.stp (pc' := 33) (lv' := [some (.inr (.inr (.inl (1, 1)))), some (.inl x), some (.inl (f 4 4)), some (.inl (c0_worstCell_v f x))]) (st' := [.inl x, .inr (.inr (.inl (18, 18 + 4 * ((c0_worstCell_v f x).toInt.toNat)))), .inl (f 4 4)]) (m' := (f, l)) rfl rfl (fl_oks_ok ⟨(t2_kc0 (by have e1 : (-1 : Int32).toInt = -1 := (by decide +kernel); have h16 := hc; have := c0_worstCell_vb (f := f) (x := x) hc; omega)), True.intro, True.intro⟩) rfl ?_
      refine fl_Tq.stp (pc' := 34) (lv' := [some (.inr (.inr (.inl (1, 1)))), some (.inl x), some (.inl (f 4 4)), some (.inl (c0_worstCell_v f x))]) (st' := [.inr (.inr (.inl (1, 1))), .inl x, .inr (.inr (.inl (18, 18 + 4 * ((c0_worstCell_v f x).toInt.toNat)))), .inl (f 4 4)]) (m' := (f, l)) rfl rfl (fl_oks_ok ⟨True.intro, (t2_kc0 (by have e1 : (-1 : Int32).toInt = -1 := (by decide +kernel); have h16 := hc; have := c0_worstCell_vb (f := f) (x := x) hc; omega)), True.intro, True.intro⟩) rfl ?_
      refine fl_Tq.stp (pc' := 37) (lv' := [some (.inr (.inr (.inl (1, 1)))), some (.inl x), some (.inl (f 4 4)), some (.inl (c0_worstCell_v f x))]) (st' := [.inr (.inr (.inl (3, 3))), .inl x, .inr (.inr (.inl (18, 18 + 4 * ((c0_worstCell_v f x).toInt.toNat)))), .inl (f 4 4)]) (m' := (f, l)) rfl rfl (fl_oks_ok ⟨fl_okp (by decide +kernel) (by decide), True.intro, (t2_kc0 (by have e1 : (-1 : Int32).toInt = -1 := (by decide +kernel); have h16 := hc; have := c0_worstCell_vb (f := f) (x := x) hc; omega)), True.intro, True.intro⟩) rfl ?_
      refine fl_Tq.cal rfl rfl (fl_oks_ok ⟨fl_okp (by decide +kernel) (by decide), True.intro, (t2_kc0 (by have e1 : (-1 : Int32).toInt = -1 := (by decide +kernel); have h16 := hc; have := c0_worstCell_vb (f := f) (x := x) hc; omega)), True.intro, True.intro⟩) rfl ?_
      refine c0_ownLimit_q (by have e1 : (-1 : Int32).toInt = -1 := (by decide +kernel); have hq := hc; have := c0_worstCell_vb (f := f) (x := x) hc; omega) hz ?_
      show fl_Tq _ 50 40 [some (.inr (.inr (.inl (1, 1)))), some (.inl x), some (.inl (f 4 4)), some (.inl (c0_worstCell_v f x))] [.inl (c0_ownLimit_v f ((c0_worstCell_v f x).toInt.toNat) x), .inl (f 4 4)] (f, l) _
      refine fl_Tq.cal rfl rfl (fl_bo rfl) rfl ?_
      refine t2_min_q  ?_
      show fl_Tq _ 50 43 [some (.inr (.inr (.inl (1, 1)))), some (.inl x), some (.inl (f 4 4)), some (.inl (c0_worstCell_v f x))] [.inl (t2_min_v (f 4 4) (c0_ownLimit_v f ((c0_worstCell_v f x).toInt.toNat) x))] (f, l) _
      have e0 : (c0_limitOf_j18_0 f x) = t2_min_v (f 4 4) (c0_ownLimit_v f ((c0_worstCell_v f x).toInt.toNat) x) := by simp only [c0_limitOf_j18_0, if_neg h1]
      rw [e0] at hJ
      exact hJ
  refine hj52 ?_
  show fl_Tq _ 50 43 [some (.inr (.inr (.inl (1, 1)))), some (.inl x), some (.inl (f 4 4)), some (.inl (c0_worstCell_v f x))] [.inl (c0_limitOf_j18_0 f x)] (f, l) _
  exact fl_Tq.ret rfl rfl rfl k
noncomputable def c0_countHeldBack_j8_0 (f : t2_F) (x : Int32) : Int32 := if (c0_worstCell_v f x).toInt = (-1 : Int32).toInt then f (18 + 4 * ((c0_worstCell_v f x).toInt.toNat)) 18 else (if (f 4 4).toInt < (c0_ownLimit_v f ((c0_worstCell_v f x).toInt.toNat) x).toInt then f (18 + 4 * ((c0_worstCell_v f x).toInt.toNat)) 18 else (f (18 + 4 * ((c0_worstCell_v f x).toInt.toNat)) 18) + (1 : Int32))
noncomputable def c0_countHeldBack_m (f : t2_F) (x : Int32) : t2_F := fl_row f (18 + 4 * ((c0_worstCell_v f x).toInt.toNat)) (upd (f (18 + 4 * ((c0_worstCell_v f x).toInt.toNat))) 18 (c0_countHeldBack_j8_0 f x))
theorem c0_countHeldBack_fr {f : t2_F} {x : Int32} {p : Nat} (e0 : p ≠ 18 + 4 * ((c0_worstCell_v f x).toInt.toNat)) : c0_countHeldBack_m f x p = f p := by
  unfold c0_countHeldBack_m
  repeat' split
  all_goals first | rfl | simp only [fl_row_ne e0]
theorem c0_countHeldBack_q {L : Nat} {xs : Nat → Int32} {f : t2_F} {l : t2_L} {Q : Option fl_V → fl_M → Prop} {x : Int32} (hc : 0 ≤ (f 1 5).toInt ∧ (f 1 5).toInt ≤ 16) (hz : 0 ≤ (f 3 6).toInt ∧ (f 3 6).toInt ≤ 6) (k : Q none (c0_countHeldBack_m f x, l)) : fl_Tq (pw_P L xs) 60 0 (fl_args (am_mxl (pw_P L xs) 60) [.inr (.inr (.inl (1, 1))), .inl x]) [] (f, l) Q := by
  refine fl_Tq.stp (pc' := 1) (lv' := [some (.inr (.inr (.inl (1, 1)))), some (.inl x), none]) (st' := [.inr (.inr (.inl (1, 1)))]) (m' := (f, l)) rfl rfl (fl_bo rfl) rfl ?_
  refine fl_Tq.stp (pc' := 2) (lv' := [some (.inr (.inr (.inl (1, 1)))), some (.inl x), none]) (st' := [.inl x, .inr (.inr (.inl (1, 1)))]) (m' := (f, l)) rfl rfl (fl_bo rfl) rfl ?_
  refine fl_Tq.cal rfl rfl (fl_bo rfl) rfl ?_
  refine c0_worstCell_q hc hz ?_
  show fl_Tq _ 60 5 [some (.inr (.inr (.inl (1, 1)))), some (.inl x), none] [.inl (c0_worstCell_v f x)] (f, l) _
  refine fl_Tq.stp (pc' := 6) (lv' := [some (.inr (.inr (.inl (1, 1)))), some (.inl x), some (.inl (c0_worstCell_v f x))]) (st' := []) (m' := (f, l)) rfl rfl (fl_bo rfl) rfl ?_
  refine fl_Tq.stp (pc' := 7) (lv' := [some (.inr (.inr (.inl (1, 1)))), some (.inl x), some (.inl (c0_worstCell_v f x))]) (st' := [.inl (c0_worstCell_v f x)]) (m' := (f, l)) rfl rfl (fl_bo rfl) rfl ?_
  refine fl_Tq.cI (c := (-1 : Int32)) rfl (by decide +kernel) (fl_bo rfl) ?_
  have hj53 : fl_Tq (pw_P L xs) 60 52 [some (.inr (.inr (.inl (1, 1)))), some (.inl x), some (.inl (c0_worstCell_v f x))] [] (fl_row f (18 + 4 * ((c0_worstCell_v f x).toInt.toNat)) (upd (f (18 + 4 * ((c0_worstCell_v f x).toInt.toNat))) 18 (c0_countHeldBack_j8_0 f x)), l) Q → fl_Tq (pw_P L xs) 60 8 [some (.inr (.inr (.inl (1, 1)))), some (.inl x), some (.inl (c0_worstCell_v f x))] [.inl (-1 : Int32), .inl (c0_worstCell_v f x)] (f, l) Q := by
    intro hJ
    by_cases h1 : (c0_worstCell_v f x).toInt = (-1 : Int32).toInt
    · refine fl_Tq.jt rfl (fl_bo rfl) (c2_eq_t h1) rfl ?_
      have e0 : (fl_row f (18 + 4 * ((c0_worstCell_v f x).toInt.toNat)) (upd (f (18 + 4 * ((c0_worstCell_v f x).toInt.toNat))) 18 (c0_countHeldBack_j8_0 f x))) = f := by
        simp only [c0_countHeldBack_j8_0, if_pos h1]
        funext q j
        simp only [fl_row, upd]
        repeat' split
        all_goals first | rfl | simp_all
      rw [e0] at hJ
      exact hJ
    · refine fl_Tq.jf rfl (fl_bo rfl) (c2_eq_f h1) rfl ?_
      refine fl_Tq.stp (pc' := 12) (lv' := [some (.inr (.inr (.inl (1, 1)))), some (.inl x), some (.inl (c0_worstCell_v f x))]) (st' := [.inr (.inr (.inl (1, 1)))]) (m' := (f, l)) rfl rfl (fl_bo rfl) rfl ?_
      refine fl_Tq.stp (pc' := 15) (lv' := [some (.inr (.inr (.inl (1, 1)))), some (.inl x), some (.inl (c0_worstCell_v f x))]) (st' := [.inr (.inr (.inl (2, 2)))]) (m' := (f, l)) rfl rfl (fl_bo rfl) rfl ?_
      refine fl_Tq.stp (pc' := 16) (lv' := [some (.inr (.inr (.inl (1, 1)))), some (.inl x), some (.inl (c0_worstCell_v f x))]) (st' := [.inl (c0_worstCell_v f x), .inr (.inr (.inl (2, 2)))]) (m' := (f, l)) rfl rfl (fl_bo rfl) rfl ?_
      refine fl_Tq.qld (p := 2) (τ := 2) (n := 16) (t := 18) (b := 16) (d := 3) (k := (c0_worstCell_v f x).toInt.toNat) rfl (fl_bo rfl) rfl (t2_nn (by have e1 : (-1 : Int32).toInt = -1 := (by decide +kernel); have := c0_worstCell_vb (f := f) (x := x) hc; omega)) (by have e1 : (-1 : Int32).toInt = -1 := (by decide +kernel); have h16 := hc; have := c0_worstCell_vb (f := f) (x := x) hc; omega) ?_
      show fl_Tq _ 60 17 [some (.inr (.inr (.inl (1, 1)))), some (.inl x), some (.inl (c0_worstCell_v f x))] [.inr (.inr (.inl (18, 18 + 4 * ((c0_worstCell_v f x).toInt.toNat))))] (f, l) _
      refine fl_Tq.stp (pc' := 18) (lv' := [some (.inr (.inr (.inl (1, 1)))), some (.inl x), some (.inl (c0_worstCell_v f x))]) (st' := [.inl x, .inr (.inr (.inl (18, 18 + 4 * ((c0_worstCell_v f x).toInt.toNat))))]) (m' := (f, l)) rfl rfl (fl_oks_ok ⟨(t2_kc0 (by have e1 : (-1 : Int32).toInt = -1 := (by decide +kernel); have h16 := hc; have := c0_worstCell_vb (f := f) (x := x) hc; omega)), True.intro⟩) rfl ?_
      refine fl_Tq.stp (pc' := 19) (lv' := [some (.inr (.inr (.inl (1, 1)))), some (.inl x), some (.inl (c0_worstCell_v f x))]) (st' := [.inr (.inr (.inl (1, 1))), .inl x, .inr (.inr (.inl (18, 18 + 4 * ((c0_worstCell_v f x).toInt.toNat))))]) (m' := (f, l)) rfl rfl (fl_oks_ok ⟨True.intro, (t2_kc0 (by have e1 : (-1 : Int32).toInt = -1 := (by decide +kernel); have h16 := hc; have := c0_worstCell_vb (f := f) (x := x) hc; omega)), True.intro⟩) rfl ?_
      refine fl_Tq.stp (pc' := 22) (lv' := [some (.inr (.inr (.inl (1, 1)))), some (.inl x), some (.inl (c0_worstCell_v f x))]) (st' := [.inr (.inr (.inl (3, 3))), .inl x, .inr (.inr (.inl (18, 18 + 4 * ((c0_worstCell_v f x).toInt.toNat))))]) (m' := (f, l)) rfl rfl (fl_oks_ok ⟨fl_okp (by decide +kernel) (by decide), True.intro, (t2_kc0 (by have e1 : (-1 : Int32).toInt = -1 := (by decide +kernel); have h16 := hc; have := c0_worstCell_vb (f := f) (x := x) hc; omega)), True.intro⟩) rfl ?_
      refine fl_Tq.cal rfl rfl (fl_oks_ok ⟨fl_okp (by decide +kernel) (by decide), True.intro, (t2_kc0 (by have e1 : (-1 : Int32).toInt = -1 := (by decide +kernel); have h16 := hc; have := c0_worstCell_vb (f := f) (x := x) hc; omega)), True.intro⟩) rfl ?_
      refine c0_ownLimit_q (by have e1 : (-1 : Int32).toInt = -1 := (by decide +kernel); have hq := hc; have := c0_worstCell_vb (f := f) (x := x) hc; omega) hz ?_
      show fl_Tq _ 60 25 [some (.inr (.inr (.inl (1, 1)))), some (.inl x), some (.inl (c0_worstCell_v f x))] [.inl (c0_ownLimit_v f ((c0_worstCell_v f x).toInt.toNat) x)] (f, l) _
      refine fl_Tq.stp (pc' := 26) (lv' := [some (.inr (.inr (.inl (1, 1)))), some (.inl x), some (.inl (c0_worstCell_v f x))]) (st' := [.inr (.inr (.inl (1, 1))), .inl (c0_ownLimit_v f ((c0_worstCell_v f x).toInt.toNat) x)]) (m' := (f, l)) rfl rfl (fl_bo rfl) rfl ?_
      refine fl_Tq.stp (pc' := 29) (lv' := [some (.inr (.inr (.inl (1, 1)))), some (.inl x), some (.inl (c0_worstCell_v f x))]) (st' := [.inr (.inr (.inl (3, 3))), .inl (c0_ownLimit_v f ((c0_worstCell_v f x).toInt.toNat) x)]) (m' := (f, l)) rfl rfl (fl_bo rfl) rfl ?_
      refine fl_Tq.stp (pc' := 32) (lv' := [some (.inr (.inr (.inl (1, 1)))), some (.inl x), some (.inl (c0_worstCell_v f x))]) (st' := [.inr (.inr (.inl (4, 4))), .inl (c0_ownLimit_v f ((c0_worstCell_v f x).toInt.toNat) x)]) (m' := (f, l)) rfl rfl (fl_bo rfl) rfl ?_
      refine fl_Tq.cI (c := (4 : Int32)) rfl (by decide +kernel) (fl_bo rfl) ?_
      refine fl_Tq.ldV (p := 4) (τ := 4) (n := 30) (z := (0, 0, 0)) (k := 4) (v := f 4 4) rfl (fl_bo rfl) rfl (by decide +kernel) (by decide) rfl ?_
      by_cases h2 : (f 4 4).toInt < (c0_ownLimit_v f ((c0_worstCell_v f x).toInt.toNat) x).toInt
      · refine fl_Tq.jt rfl (fl_bo rfl) (c2_gt_t h2) rfl ?_
        have e0 : (fl_row f (18 + 4 * ((c0_worstCell_v f x).toInt.toNat)) (upd (f (18 + 4 * ((c0_worstCell_v f x).toInt.toNat))) 18 (c0_countHeldBack_j8_0 f x))) = f := by
          simp only [c0_countHeldBack_j8_0, if_neg h1, if_pos h2]
          funext q j
          simp only [fl_row, upd]
          repeat' split
          all_goals first | rfl | simp_all
        rw [e0] at hJ
        exact hJ
      · refine fl_Tq.jf rfl (fl_bo rfl) (c2_gt_f h2) rfl ?_
        refine fl_Tq.stp (pc' := 38) (lv' := [some (.inr (.inr (.inl (1, 1)))), some (.inl x), some (.inl (c0_worstCell_v f x))]) (st' := [.inr (.inr (.inl (1, 1)))]) (m' := (f, l)) rfl rfl (fl_bo rfl) rfl ?_
        refine fl_Tq.stp (pc' := 41) (lv' := [some (.inr (.inr (.inl (1, 1)))), some (.inl x), some (.inl (c0_worstCell_v f x))]) (st' := [.inr (.inr (.inl (2, 2)))]) (m' := (f, l)) rfl rfl (fl_bo rfl) rfl ?_
        refine fl_Tq.stp (pc' := 42) (lv' := [some (.inr (.inr (.inl (1, 1)))), some (.inl x), some (.inl (c0_worstCell_v f x))]) (st' := [.inl (c0_worstCell_v f x), .inr (.inr (.inl (2, 2)))]) (m' := (f, l)) rfl rfl (fl_bo rfl) rfl ?_
        refine fl_Tq.qld (p := 2) (τ := 2) (n := 16) (t := 18) (b := 16) (d := 3) (k := (c0_worstCell_v f x).toInt.toNat) rfl (fl_bo rfl) rfl (t2_nn (by have e1 : (-1 : Int32).toInt = -1 := (by decide +kernel); have := c0_worstCell_vb (f := f) (x := x) hc; omega)) (by have e1 : (-1 : Int32).toInt = -1 := (by decide +kernel); have h16 := hc; have := c0_worstCell_vb (f := f) (x := x) hc; omega) ?_
        show fl_Tq _ 60 43 [some (.inr (.inr (.inl (1, 1)))), some (.inl x), some (.inl (c0_worstCell_v f x))] [.inr (.inr (.inl (18, 18 + 4 * ((c0_worstCell_v f x).toInt.toNat))))] (f, l) _
        refine fl_Tq.stp (pc' := 44) (lv' := [some (.inr (.inr (.inl (1, 1)))), some (.inl x), some (.inl (c0_worstCell_v f x))]) (st' := [.inr (.inr (.inl (18, 18 + 4 * ((c0_worstCell_v f x).toInt.toNat)))), .inr (.inr (.inl (18, 18 + 4 * ((c0_worstCell_v f x).toInt.toNat))))]) (m' := (f, l)) rfl rfl (fl_oks_ok ⟨(t2_kc0 (by have e1 : (-1 : Int32).toInt = -1 := (by decide +kernel); have h16 := hc; have := c0_worstCell_vb (f := f) (x := x) hc; omega)), True.intro⟩) rfl ?_
        refine fl_Tq.gfV (k := 18) (v := f (18 + 4 * ((c0_worstCell_v f x).toInt.toNat)) 18) rfl (fl_oks_ok ⟨(t2_kc0 (by have e1 : (-1 : Int32).toInt = -1 := (by decide +kernel); have h16 := hc; have := c0_worstCell_vb (f := f) (x := x) hc; omega)), (t2_kc0 (by have e1 : (-1 : Int32).toInt = -1 := (by decide +kernel); have h16 := hc; have := c0_worstCell_vb (f := f) (x := x) hc; omega)), True.intro⟩) rfl rfl ?_
        refine fl_Tq.cI (c := (1 : Int32)) rfl (by decide +kernel) (fl_oks_ok ⟨True.intro, (t2_kc0 (by have e1 : (-1 : Int32).toInt = -1 := (by decide +kernel); have h16 := hc; have := c0_worstCell_vb (f := f) (x := x) hc; omega)), True.intro⟩) ?_
        refine fl_Tq.stp (pc' := 49) (lv' := [some (.inr (.inr (.inl (1, 1)))), some (.inl x), some (.inl (c0_worstCell_v f x))]) (st' := [.inl ((f (18 + 4 * ((c0_worstCell_v f x).toInt.toNat)) 18) + (1 : Int32)), .inr (.inr (.inl (18, 18 + 4 * ((c0_worstCell_v f x).toInt.toNat))))]) (m' := (f, l)) rfl rfl (fl_oks_ok ⟨True.intro, True.intro, (t2_kc0 (by have e1 : (-1 : Int32).toInt = -1 := (by decide +kernel); have h16 := hc; have := c0_worstCell_vb (f := f) (x := x) hc; omega)), True.intro⟩) rfl ?_
        refine fl_Tq.pfV (k := 18) (m' := (fl_row f (18 + 4 * ((c0_worstCell_v f x).toInt.toNat)) (upd (f (18 + 4 * ((c0_worstCell_v f x).toInt.toNat))) 18 ((f (18 + 4 * ((c0_worstCell_v f x).toInt.toNat)) 18) + (1 : Int32))), l)) rfl (fl_oks_ok ⟨True.intro, (t2_kc0 (by have e1 : (-1 : Int32).toInt = -1 := (by decide +kernel); have h16 := hc; have := c0_worstCell_vb (f := f) (x := x) hc; omega)), True.intro⟩) rfl (t2_upn rfl) ?_
        have e0 : (fl_row f (18 + 4 * ((c0_worstCell_v f x).toInt.toNat)) (upd (f (18 + 4 * ((c0_worstCell_v f x).toInt.toNat))) 18 (c0_countHeldBack_j8_0 f x))) = fl_row f (18 + 4 * ((c0_worstCell_v f x).toInt.toNat)) (upd (f (18 + 4 * ((c0_worstCell_v f x).toInt.toNat))) 18 ((f (18 + 4 * ((c0_worstCell_v f x).toInt.toNat)) 18) + (1 : Int32))) := by
          simp only [c0_countHeldBack_j8_0, if_neg h1, if_neg h2]
        rw [e0] at hJ
        exact hJ
  refine hj53 ?_
  show fl_Tq _ 60 52 [some (.inr (.inr (.inl (1, 1)))), some (.inl x), some (.inl (c0_worstCell_v f x))] [] (fl_row f (18 + 4 * ((c0_worstCell_v f x).toInt.toNat)) (upd (f (18 + 4 * ((c0_worstCell_v f x).toInt.toNat))) 18 (c0_countHeldBack_j8_0 f x)), l) _
  exact fl_Tq.ret rfl rfl rfl k
noncomputable def c0_letCurrent_j26_0 (f : t2_F)  : Int32 := if (f 4 20).toInt < 0 then (1 : Int32) else (0 : Int32)
noncomputable def c0_letCurrent_m (f : t2_F) : t2_F := if (c0_areActual_v (fl_row f 1 (upd (f 1) 9 (0 : Int32))) (5 : Int32)).toInt = 0 then fl_row f 1 (upd (f 1) 9 (0 : Int32)) else (if (t2_heldTo_v (f 4 20) (-(c0_limitOf_v (fl_row f 1 (upd (f 1) 9 (0 : Int32))) (c0_letCurrent_j26_0 f))) (c0_limitOf_v (fl_row f 1 (upd (f 1) 9 (0 : Int32))) (c0_letCurrent_j26_0 f))).toInt = (f 4 20).toInt then fl_row f 1 (upd (f 1) 9 (t2_heldTo_v (f 4 20) (-(c0_limitOf_v (fl_row f 1 (upd (f 1) 9 (0 : Int32))) (c0_letCurrent_j26_0 f))) (c0_limitOf_v (fl_row f 1 (upd (f 1) 9 (0 : Int32))) (c0_letCurrent_j26_0 f)))) else c0_countHeldBack_m (fl_row f 1 (upd (f 1) 9 (t2_heldTo_v (f 4 20) (-(c0_limitOf_v (fl_row f 1 (upd (f 1) 9 (0 : Int32))) (c0_letCurrent_j26_0 f))) (c0_limitOf_v (fl_row f 1 (upd (f 1) 9 (0 : Int32))) (c0_letCurrent_j26_0 f))))) (c0_letCurrent_j26_0 f))
theorem c0_letCurrent_fr {f : t2_F}  {p : Nat} (e0 : p ≠ 1) (e1 : p ≠ 18 + 4 * ((c0_worstCell_v (fl_row f 1 (upd (f 1) 9 (t2_heldTo_v (f 4 20) (-(c0_limitOf_v (fl_row f 1 (upd (f 1) 9 (0 : Int32))) (c0_letCurrent_j26_0 f))) (c0_limitOf_v (fl_row f 1 (upd (f 1) 9 (0 : Int32))) (c0_letCurrent_j26_0 f))))) (c0_letCurrent_j26_0 f)).toInt.toNat)) : c0_letCurrent_m f p = f p := by
  unfold c0_letCurrent_m
  repeat' split
  all_goals first | rfl | (simp only [fl_row_ne e0, fl_row_ne e1, c0_countHeldBack_fr e1]; done) | (simp only [fl_row_ne e0, fl_row_ne e1, c0_countHeldBack_fr e1]; split <;> simp only [fl_row_ne e0, fl_row_ne e1, c0_countHeldBack_fr e1])
theorem c0_letCurrent_q {L : Nat} {xs : Nat → Int32} {f : t2_F} {l : t2_L} {Q : Option fl_V → fl_M → Prop}  (hc : 0 ≤ (f 1 5).toInt ∧ (f 1 5).toInt ≤ 16) (hz : 0 ≤ (f 3 6).toInt ∧ (f 3 6).toInt ≤ 6) (k : Q none (c0_letCurrent_m f, l)) : fl_Tq (pw_P L xs) 59 0 (fl_args (am_mxl (pw_P L xs) 59) [.inr (.inr (.inl (1, 1)))]) [] (f, l) Q := by
  refine fl_Tq.stp (pc' := 1) (lv' := [some (.inr (.inr (.inl (1, 1)))), none, none, none]) (st' := [.inr (.inr (.inl (1, 1)))]) (m' := (f, l)) rfl rfl (fl_bo rfl) rfl ?_
  refine fl_Tq.cI (c := (0 : Int32)) rfl (by decide +kernel) (fl_bo rfl) ?_
  refine fl_Tq.pfV (k := 9) (m' := (fl_row f 1 (upd (f 1) 9 (0 : Int32)), l)) rfl (fl_bo rfl) rfl (t2_upn rfl) ?_
  refine fl_Tq.stp (pc' := 6) (lv' := [some (.inr (.inr (.inl (1, 1)))), none, none, none]) (st' := [.inr (.inr (.inl (1, 1)))]) (m' := (fl_row f 1 (upd (f 1) 9 (0 : Int32)), l)) rfl rfl (fl_bo rfl) rfl ?_
  refine fl_Tq.cI (c := (5 : Int32)) rfl (by decide +kernel) (fl_bo rfl) ?_
  refine fl_Tq.cal rfl rfl (fl_bo rfl) rfl ?_
  refine c0_areActual_q  ?_
  show fl_Tq _ 59 10 [some (.inr (.inr (.inl (1, 1)))), none, none, none] [.inl (c0_areActual_v (fl_row f 1 (upd (f 1) 9 (0 : Int32))) (5 : Int32))] (fl_row f 1 (upd (f 1) 9 (0 : Int32)), l) _
  by_cases h1 : (c0_areActual_v (fl_row f 1 (upd (f 1) 9 (0 : Int32))) (5 : Int32)).toInt = 0
  · refine fl_Tq.zf rfl (fl_bo rfl) (c1_ne_f h1) rfl ?_
    refine fl_Tq.ret rfl rfl rfl ?_
    unfold c0_letCurrent_m at k
    simp only [if_pos h1] at k
    exact k
  · refine fl_Tq.zt rfl (fl_bo rfl) (c1_ne_t h1) rfl ?_
    refine fl_Tq.stp (pc' := 15) (lv' := [some (.inr (.inr (.inl (1, 1)))), none, none, none]) (st' := [.inr (.inr (.inl (1, 1)))]) (m' := (fl_row f 1 (upd (f 1) 9 (0 : Int32)), l)) rfl rfl (fl_bo rfl) rfl ?_
    refine fl_Tq.stp (pc' := 18) (lv' := [some (.inr (.inr (.inl (1, 1)))), none, none, none]) (st' := [.inr (.inr (.inl (3, 3)))]) (m' := (fl_row f 1 (upd (f 1) 9 (0 : Int32)), l)) rfl rfl (fl_bo rfl) rfl ?_
    refine fl_Tq.stp (pc' := 21) (lv' := [some (.inr (.inr (.inl (1, 1)))), none, none, none]) (st' := [.inr (.inr (.inl (4, 4)))]) (m' := (fl_row f 1 (upd (f 1) 9 (0 : Int32)), l)) rfl rfl (fl_bo rfl) rfl ?_
    refine fl_Tq.cB (c := (20 : Int32)) rfl (by decide +kernel) (fl_bo rfl) ?_
    refine fl_Tq.ldV (p := 4) (τ := 4) (n := 30) (z := (0, 0, 0)) (k := 20) (v := f 4 20) rfl (fl_bo rfl) rfl (by decide +kernel) (by decide) (by simp only [fl_row_ne (by decide : 4 ≠ 1)]) ?_
    refine fl_Tq.stp (pc' := 25) (lv' := [some (.inr (.inr (.inl (1, 1)))), some (.inl (f 4 20)), none, none]) (st' := []) (m' := (fl_row f 1 (upd (f 1) 9 (0 : Int32)), l)) rfl rfl (fl_bo rfl) rfl ?_
    refine fl_Tq.stp (pc' := 26) (lv' := [some (.inr (.inr (.inl (1, 1)))), some (.inl (f 4 20)), none, none]) (st' := [.inl (f 4 20)]) (m' := (fl_row f 1 (upd (f 1) 9 (0 : Int32)), l)) rfl rfl (fl_bo rfl) rfl ?_
    have hj54 : fl_Tq (pw_P L xs) 59 34 [some (.inr (.inr (.inl (1, 1)))), some (.inl (f 4 20)), none, none] [.inl (c0_letCurrent_j26_0 f)] (fl_row f 1 (upd (f 1) 9 (0 : Int32)), l) Q → fl_Tq (pw_P L xs) 59 26 [some (.inr (.inr (.inl (1, 1)))), some (.inl (f 4 20)), none, none] [.inl (f 4 20)] (fl_row f 1 (upd (f 1) 9 (0 : Int32)), l) Q := by
      intro hJ
      by_cases h2 : (f 4 20).toInt < 0
      · refine fl_Tq.zf rfl (fl_bo rfl) (c1_ge_f h2) rfl ?_
        refine fl_Tq.cI (c := (1 : Int32)) rfl (by decide +kernel) (fl_bo rfl) ?_
        refine fl_Tq.stp (pc' := 34) (lv' := [some (.inr (.inr (.inl (1, 1)))), some (.inl (f 4 20)), none, none]) (st' := [.inl (1 : Int32)]) (m' := (fl_row f 1 (upd (f 1) 9 (0 : Int32)), l)) rfl rfl (fl_bo rfl) rfl ?_
        have e0 : (c0_letCurrent_j26_0 f) = (1 : Int32) := by simp only [c0_letCurrent_j26_0, if_pos h2]
        rw [e0] at hJ
        exact hJ
      · refine fl_Tq.zt rfl (fl_bo rfl) (c1_ge_t h2) rfl ?_
        refine fl_Tq.cI (c := (0 : Int32)) rfl (by decide +kernel) (fl_bo rfl) ?_
        have e0 : (c0_letCurrent_j26_0 f) = (0 : Int32) := by simp only [c0_letCurrent_j26_0, if_neg h2]
        rw [e0] at hJ
        exact hJ
    refine hj54 ?_
    show fl_Tq _ 59 34 [some (.inr (.inr (.inl (1, 1)))), some (.inl (f 4 20)), none, none] [.inl (c0_letCurrent_j26_0 f)] (fl_row f 1 (upd (f 1) 9 (0 : Int32)), l) _
    refine fl_Tq.stp (pc' := 35) (lv' := [some (.inr (.inr (.inl (1, 1)))), some (.inl (f 4 20)), some (.inl (c0_letCurrent_j26_0 f)), none]) (st' := []) (m' := (fl_row f 1 (upd (f 1) 9 (0 : Int32)), l)) rfl rfl (fl_bo rfl) rfl ?_
    refine fl_Tq.stp (pc' := 36) (lv' := [some (.inr (.inr (.inl (1, 1)))), some (.inl (f 4 20)), some (.inl (c0_letCurrent_j26_0 f)), none]) (st' := [.inr (.inr (.inl (1, 1)))]) (m' := (fl_row f 1 (upd (f 1) 9 (0 : Int32)), l)) rfl rfl (fl_bo rfl) rfl ?_
    refine fl_Tq.stp (pc' := 37) (lv' := [some (.inr (.inr (.inl (1, 1)))), some (.inl (f 4 20)), some (.inl (c0_letCurrent_j26_0 f)), none]) (st' := [.inl (c0_letCurrent_j26_0 f), .inr (.inr (.inl (1, 1)))]) (m' := (fl_row f 1 (upd (f 1) 9 (0 : Int32)), l)) rfl rfl (fl_bo rfl) rfl ?_
    refine fl_Tq.cal rfl rfl (fl_bo rfl) rfl ?_
    refine c0_limitOf_q (by simp only [fl_row_self, upd_ne (by decide : 5 ≠ 9)]; exact hc) (by simp only [fl_row_ne (by decide : 3 ≠ 1)]; exact hz) ?_
    show fl_Tq _ 59 40 [some (.inr (.inr (.inl (1, 1)))), some (.inl (f 4 20)), some (.inl (c0_letCurrent_j26_0 f)), none] [.inl (c0_limitOf_v (fl_row f 1 (upd (f 1) 9 (0 : Int32))) (c0_letCurrent_j26_0 f))] (fl_row f 1 (upd (f 1) 9 (0 : Int32)), l) _
    refine fl_Tq.stp (pc' := 41) (lv' := [some (.inr (.inr (.inl (1, 1)))), some (.inl (f 4 20)), some (.inl (c0_letCurrent_j26_0 f)), some (.inl (c0_limitOf_v (fl_row f 1 (upd (f 1) 9 (0 : Int32))) (c0_letCurrent_j26_0 f)))]) (st' := []) (m' := (fl_row f 1 (upd (f 1) 9 (0 : Int32)), l)) rfl rfl (fl_bo rfl) rfl ?_
    refine fl_Tq.stp (pc' := 42) (lv' := [some (.inr (.inr (.inl (1, 1)))), some (.inl (f 4 20)), some (.inl (c0_letCurrent_j26_0 f)), some (.inl (c0_limitOf_v (fl_row f 1 (upd (f 1) 9 (0 : Int32))) (c0_letCurrent_j26_0 f)))]) (st' := [.inr (.inr (.inl (1, 1)))]) (m' := (fl_row f 1 (upd (f 1) 9 (0 : Int32)), l)) rfl rfl (fl_bo rfl) rfl ?_
    refine fl_Tq.stp (pc' := 43) (lv' := [some (.inr (.inr (.inl (1, 1)))), some (.inl (f 4 20)), some (.inl (c0_letCurrent_j26_0 f)), some (.inl (c0_limitOf_v (fl_row f 1 (upd (f 1) 9 (0 : Int32))) (c0_letCurrent_j26_0 f)))]) (st' := [.inl (f 4 20), .inr (.inr (.inl (1, 1)))]) (m' := (fl_row f 1 (upd (f 1) 9 (0 : Int32)), l)) rfl rfl (fl_bo rfl) rfl ?_
    refine fl_Tq.stp (pc' := 44) (lv' := [some (.inr (.inr (.inl (1, 1)))), some (.inl (f 4 20)), some (.inl (c0_letCurrent_j26_0 f)), some (.inl (c0_limitOf_v (fl_row f 1 (upd (f 1) 9 (0 : Int32))) (c0_letCurrent_j26_0 f)))]) (st' := [.inl (c0_limitOf_v (fl_row f 1 (upd (f 1) 9 (0 : Int32))) (c0_letCurrent_j26_0 f)), .inl (f 4 20), .inr (.inr (.inl (1, 1)))]) (m' := (fl_row f 1 (upd (f 1) 9 (0 : Int32)), l)) rfl rfl (fl_bo rfl) rfl ?_
    refine fl_Tq.stp (pc' := 45) (lv' := [some (.inr (.inr (.inl (1, 1)))), some (.inl (f 4 20)), some (.inl (c0_letCurrent_j26_0 f)), some (.inl (c0_limitOf_v (fl_row f 1 (upd (f 1) 9 (0 : Int32))) (c0_letCurrent_j26_0 f)))]) (st' := [.inl (-(c0_limitOf_v (fl_row f 1 (upd (f 1) 9 (0 : Int32))) (c0_letCurrent_j26_0 f))), .inl (f 4 20), .inr (.inr (.inl (1, 1)))]) (m' := (fl_row f 1 (upd (f 1) 9 (0 : Int32)), l)) rfl rfl (fl_bo rfl) rfl ?_
    refine fl_Tq.stp (pc' := 46) (lv' := [some (.inr (.inr (.inl (1, 1)))), some (.inl (f 4 20)), some (.inl (c0_letCurrent_j26_0 f)), some (.inl (c0_limitOf_v (fl_row f 1 (upd (f 1) 9 (0 : Int32))) (c0_letCurrent_j26_0 f)))]) (st' := [.inl (c0_limitOf_v (fl_row f 1 (upd (f 1) 9 (0 : Int32))) (c0_letCurrent_j26_0 f)), .inl (-(c0_limitOf_v (fl_row f 1 (upd (f 1) 9 (0 : Int32))) (c0_letCurrent_j26_0 f))), .inl (f 4 20), .inr (.inr (.inl (1, 1)))]) (m' := (fl_row f 1 (upd (f 1) 9 (0 : Int32)), l)) rfl rfl (fl_bo rfl) rfl ?_
    refine fl_Tq.cal rfl rfl (fl_bo rfl) rfl ?_
    refine t2_heldTo_q  ?_
    show fl_Tq _ 59 49 [some (.inr (.inr (.inl (1, 1)))), some (.inl (f 4 20)), some (.inl (c0_letCurrent_j26_0 f)), some (.inl (c0_limitOf_v (fl_row f 1 (upd (f 1) 9 (0 : Int32))) (c0_letCurrent_j26_0 f)))] [.inl (t2_heldTo_v (f 4 20) (-(c0_limitOf_v (fl_row f 1 (upd (f 1) 9 (0 : Int32))) (c0_letCurrent_j26_0 f))) (c0_limitOf_v (fl_row f 1 (upd (f 1) 9 (0 : Int32))) (c0_letCurrent_j26_0 f))), .inr (.inr (.inl (1, 1)))] (fl_row f 1 (upd (f 1) 9 (0 : Int32)), l) _
    refine fl_Tq.pfV (k := 9) (m' := (fl_row f 1 (upd (f 1) 9 (t2_heldTo_v (f 4 20) (-(c0_limitOf_v (fl_row f 1 (upd (f 1) 9 (0 : Int32))) (c0_letCurrent_j26_0 f))) (c0_limitOf_v (fl_row f 1 (upd (f 1) 9 (0 : Int32))) (c0_letCurrent_j26_0 f)))), l)) rfl (fl_bo rfl) rfl (t2_upo) ?_
    refine fl_Tq.stp (pc' := 53) (lv' := [some (.inr (.inr (.inl (1, 1)))), some (.inl (f 4 20)), some (.inl (c0_letCurrent_j26_0 f)), some (.inl (c0_limitOf_v (fl_row f 1 (upd (f 1) 9 (0 : Int32))) (c0_letCurrent_j26_0 f)))]) (st' := [.inr (.inr (.inl (1, 1)))]) (m' := (fl_row f 1 (upd (f 1) 9 (t2_heldTo_v (f 4 20) (-(c0_limitOf_v (fl_row f 1 (upd (f 1) 9 (0 : Int32))) (c0_letCurrent_j26_0 f))) (c0_limitOf_v (fl_row f 1 (upd (f 1) 9 (0 : Int32))) (c0_letCurrent_j26_0 f)))), l)) rfl rfl (fl_bo rfl) rfl ?_
    refine fl_Tq.gfV (k := 9) (v := t2_heldTo_v (f 4 20) (-(c0_limitOf_v (fl_row f 1 (upd (f 1) 9 (0 : Int32))) (c0_letCurrent_j26_0 f))) (c0_limitOf_v (fl_row f 1 (upd (f 1) 9 (0 : Int32))) (c0_letCurrent_j26_0 f))) rfl (fl_bo rfl) rfl (by simp only [fl_row_self, upd_self]) ?_
    refine fl_Tq.stp (pc' := 57) (lv' := [some (.inr (.inr (.inl (1, 1)))), some (.inl (f 4 20)), some (.inl (c0_letCurrent_j26_0 f)), some (.inl (c0_limitOf_v (fl_row f 1 (upd (f 1) 9 (0 : Int32))) (c0_letCurrent_j26_0 f)))]) (st' := [.inl (f 4 20), .inl (t2_heldTo_v (f 4 20) (-(c0_limitOf_v (fl_row f 1 (upd (f 1) 9 (0 : Int32))) (c0_letCurrent_j26_0 f))) (c0_limitOf_v (fl_row f 1 (upd (f 1) 9 (0 : Int32))) (c0_letCurrent_j26_0 f)))]) (m' := (fl_row f 1 (upd (f 1) 9 (t2_heldTo_v (f 4 20) (-(c0_limitOf_v (fl_row f 1 (upd (f 1) 9 (0 : Int32))) (c0_letCurrent_j26_0 f))) (c0_limitOf_v (fl_row f 1 (upd (f 1) 9 (0 : Int32))) (c0_letCurrent_j26_0 f)))), l)) rfl rfl (fl_bo rfl) rfl ?_
    have hj55 : fl_Tq (pw_P L xs) 59 65 [some (.inr (.inr (.inl (1, 1)))), some (.inl (f 4 20)), some (.inl (c0_letCurrent_j26_0 f)), some (.inl (c0_limitOf_v (fl_row f 1 (upd (f 1) 9 (0 : Int32))) (c0_letCurrent_j26_0 f)))] [] (if (t2_heldTo_v (f 4 20) (-(c0_limitOf_v (fl_row f 1 (upd (f 1) 9 (0 : Int32))) (c0_letCurrent_j26_0 f))) (c0_limitOf_v (fl_row f 1 (upd (f 1) 9 (0 : Int32))) (c0_letCurrent_j26_0 f))).toInt = (f 4 20).toInt then fl_row f 1 (upd (f 1) 9 (t2_heldTo_v (f 4 20) (-(c0_limitOf_v (fl_row f 1 (upd (f 1) 9 (0 : Int32))) (c0_letCurrent_j26_0 f))) (c0_limitOf_v (fl_row f 1 (upd (f 1) 9 (0 : Int32))) (c0_letCurrent_j26_0 f)))) else c0_countHeldBack_m (fl_row f 1 (upd (f 1) 9 (t2_heldTo_v (f 4 20) (-(c0_limitOf_v (fl_row f 1 (upd (f 1) 9 (0 : Int32))) (c0_letCurrent_j26_0 f))) (c0_limitOf_v (fl_row f 1 (upd (f 1) 9 (0 : Int32))) (c0_letCurrent_j26_0 f))))) (c0_letCurrent_j26_0 f), l) Q → fl_Tq (pw_P L xs) 59 57 [some (.inr (.inr (.inl (1, 1)))), some (.inl (f 4 20)), some (.inl (c0_letCurrent_j26_0 f)), some (.inl (c0_limitOf_v (fl_row f 1 (upd (f 1) 9 (0 : Int32))) (c0_letCurrent_j26_0 f)))] [.inl (f 4 20), .inl (t2_heldTo_v (f 4 20) (-(c0_limitOf_v (fl_row f 1 (upd (f 1) 9 (0 : Int32))) (c0_letCurrent_j26_0 f))) (c0_limitOf_v (fl_row f 1 (upd (f 1) 9 (0 : Int32))) (c0_letCurrent_j26_0 f)))] (fl_row f 1 (upd (f 1) 9 (t2_heldTo_v (f 4 20) (-(c0_limitOf_v (fl_row f 1 (upd (f 1) 9 (0 : Int32))) (c0_letCurrent_j26_0 f))) (c0_limitOf_v (fl_row f 1 (upd (f 1) 9 (0 : Int32))) (c0_letCurrent_j26_0 f)))), l) Q := by
      intro hJ
      by_cases h3 : (t2_heldTo_v (f 4 20) (-(c0_limitOf_v (fl_row f 1 (upd (f 1) 9 (0 : Int32))) (c0_letCurrent_j26_0 f))) (c0_limitOf_v (fl_row f 1 (upd (f 1) 9 (0 : Int32))) (c0_letCurrent_j26_0 f))).toInt = (f 4 20).toInt
      · refine fl_Tq.jt rfl (fl_bo rfl) (c2_eq_t h3) rfl ?_
        have e0 : (if (t2_heldTo_v (f 4 20) (-(c0_limitOf_v (fl_row f 1 (upd (f 1) 9 (0 : Int32))) (c0_letCurrent_j26_0 f))) (c0_limitOf_v (fl_row f 1 (upd (f 1) 9 (0 : Int32))) (c0_letCurrent_j26_0 f))).toInt = (f 4 20).toInt then fl_row f 1 (upd (f 1) 9 (t2_heldTo_v (f 4 20) (-(c0_limitOf_v (fl_row f 1 (upd (f 1) 9 (0 : Int32))) (c0_letCurrent_j26_0 f))) (c0_limitOf_v (fl_row f 1 (upd (f 1) 9 (0 : Int32))) (c0_letCurrent_j26_0 f)))) else c0_countHeldBack_m (fl_row f 1 (upd (f 1) 9 (t2_heldTo_v (f 4 20) (-(c0_limitOf_v (fl_row f 1 (upd (f 1) 9 (0 : Int32))) (c0_letCurrent_j26_0 f))) (c0_limitOf_v (fl_row f 1 (upd (f 1) 9 (0 : Int32))) (c0_letCurrent_j26_0 f))))) (c0_letCurrent_j26_0 f)) = fl_row f 1 (upd (f 1) 9 (t2_heldTo_v (f 4 20) (-(c0_limitOf_v (fl_row f 1 (upd (f 1) 9 (0 : Int32))) (c0_letCurrent_j26_0 f))) (c0_limitOf_v (fl_row f 1 (upd (f 1) 9 (0 : Int32))) (c0_letCurrent_j26_0 f)))) := by simp only [if_pos h3]
        rw [e0] at hJ
        exact hJ
      · refine fl_Tq.jf rfl (fl_bo rfl) (c2_eq_f h3) rfl ?_
        refine fl_Tq.stp (pc' := 61) (lv' := [some (.inr (.inr (.inl (1, 1)))), some (.inl (f 4 20)), some (.inl (c0_letCurrent_j26_0 f)), some (.inl (c0_limitOf_v (fl_row f 1 (upd (f 1) 9 (0 : Int32))) (c0_letCurrent_j26_0 f)))]) (st' := [.inr (.inr (.inl (1, 1)))]) (m' := (fl_row f 1 (upd (f 1) 9 (t2_heldTo_v (f 4 20) (-(c0_limitOf_v (fl_row f 1 (upd (f 1) 9 (0 : Int32))) (c0_letCurrent_j26_0 f))) (c0_limitOf_v (fl_row f 1 (upd (f 1) 9 (0 : Int32))) (c0_letCurrent_j26_0 f)))), l)) rfl rfl (fl_bo rfl) rfl ?_
        refine fl_Tq.stp (pc' := 62) (lv' := [some (.inr (.inr (.inl (1, 1)))), some (.inl (f 4 20)), some (.inl (c0_letCurrent_j26_0 f)), some (.inl (c0_limitOf_v (fl_row f 1 (upd (f 1) 9 (0 : Int32))) (c0_letCurrent_j26_0 f)))]) (st' := [.inl (c0_letCurrent_j26_0 f), .inr (.inr (.inl (1, 1)))]) (m' := (fl_row f 1 (upd (f 1) 9 (t2_heldTo_v (f 4 20) (-(c0_limitOf_v (fl_row f 1 (upd (f 1) 9 (0 : Int32))) (c0_letCurrent_j26_0 f))) (c0_limitOf_v (fl_row f 1 (upd (f 1) 9 (0 : Int32))) (c0_letCurrent_j26_0 f)))), l)) rfl rfl (fl_bo rfl) rfl ?_
        refine fl_Tq.cal rfl rfl (fl_bo rfl) rfl ?_
        refine c0_countHeldBack_q (by simp only [fl_row_self, upd_ne (by decide : 5 ≠ 9)]; exact hc) (by simp only [fl_row_ne (by decide : 3 ≠ 1)]; exact hz) ?_
        show fl_Tq _ 59 65 [some (.inr (.inr (.inl (1, 1)))), some (.inl (f 4 20)), some (.inl (c0_letCurrent_j26_0 f)), some (.inl (c0_limitOf_v (fl_row f 1 (upd (f 1) 9 (0 : Int32))) (c0_letCurrent_j26_0 f)))] [] (c0_countHeldBack_m (fl_row f 1 (upd (f 1) 9 (t2_heldTo_v (f 4 20) (-(c0_limitOf_v (fl_row f 1 (upd (f 1) 9 (0 : Int32))) (c0_letCurrent_j26_0 f))) (c0_limitOf_v (fl_row f 1 (upd (f 1) 9 (0 : Int32))) (c0_letCurrent_j26_0 f))))) (c0_letCurrent_j26_0 f), l) _
        have e0 : (if (t2_heldTo_v (f 4 20) (-(c0_limitOf_v (fl_row f 1 (upd (f 1) 9 (0 : Int32))) (c0_letCurrent_j26_0 f))) (c0_limitOf_v (fl_row f 1 (upd (f 1) 9 (0 : Int32))) (c0_letCurrent_j26_0 f))).toInt = (f 4 20).toInt then fl_row f 1 (upd (f 1) 9 (t2_heldTo_v (f 4 20) (-(c0_limitOf_v (fl_row f 1 (upd (f 1) 9 (0 : Int32))) (c0_letCurrent_j26_0 f))) (c0_limitOf_v (fl_row f 1 (upd (f 1) 9 (0 : Int32))) (c0_letCurrent_j26_0 f)))) else c0_countHeldBack_m (fl_row f 1 (upd (f 1) 9 (t2_heldTo_v (f 4 20) (-(c0_limitOf_v (fl_row f 1 (upd (f 1) 9 (0 : Int32))) (c0_letCurrent_j26_0 f))) (c0_limitOf_v (fl_row f 1 (upd (f 1) 9 (0 : Int32))) (c0_letCurrent_j26_0 f))))) (c0_letCurrent_j26_0 f)) = c0_countHeldBack_m (fl_row f 1 (upd (f 1) 9 (t2_heldTo_v (f 4 20) (-(c0_limitOf_v (fl_row f 1 (upd (f 1) 9 (0 : Int32))) (c0_letCurrent_j26_0 f))) (c0_limitOf_v (fl_row f 1 (upd (f 1) 9 (0 : Int32))) (c0_letCurrent_j26_0 f))))) (c0_letCurrent_j26_0 f) := by simp only [if_neg h3]
        rw [e0] at hJ
        exact hJ
    refine hj55 ?_
    show fl_Tq _ 59 65 [some (.inr (.inr (.inl (1, 1)))), some (.inl (f 4 20)), some (.inl (c0_letCurrent_j26_0 f)), some (.inl (c0_limitOf_v (fl_row f 1 (upd (f 1) 9 (0 : Int32))) (c0_letCurrent_j26_0 f)))] [] (if (t2_heldTo_v (f 4 20) (-(c0_limitOf_v (fl_row f 1 (upd (f 1) 9 (0 : Int32))) (c0_letCurrent_j26_0 f))) (c0_limitOf_v (fl_row f 1 (upd (f 1) 9 (0 : Int32))) (c0_letCurrent_j26_0 f))).toInt = (f 4 20).toInt then fl_row f 1 (upd (f 1) 9 (t2_heldTo_v (f 4 20) (-(c0_limitOf_v (fl_row f 1 (upd (f 1) 9 (0 : Int32))) (c0_letCurrent_j26_0 f))) (c0_limitOf_v (fl_row f 1 (upd (f 1) 9 (0 : Int32))) (c0_letCurrent_j26_0 f)))) else c0_countHeldBack_m (fl_row f 1 (upd (f 1) 9 (t2_heldTo_v (f 4 20) (-(c0_limitOf_v (fl_row f 1 (upd (f 1) 9 (0 : Int32))) (c0_letCurrent_j26_0 f))) (c0_limitOf_v (fl_row f 1 (upd (f 1) 9 (0 : Int32))) (c0_letCurrent_j26_0 f))))) (c0_letCurrent_j26_0 f), l) _
    refine fl_Tq.ret rfl rfl rfl ?_
    unfold c0_letCurrent_m at k
    simp only [if_neg h1] at k
    exact k

end

/-! 91.11.g6a.lean.txt -/
section
noncomputable def c0_bplace_j12_0 (f : t2_F) (x : Int32) : Int32 := if ((f 13 2) + x).toInt < (f 13 0).toInt then (f 13 2) + x else ((f 13 2) + x) - (f 13 0)
noncomputable def c0_bplace_v (f : t2_F) (x : Int32) : Int32 := c0_bplace_j12_0 f x
theorem c0_bplace_q {L : Nat} {xs : Nat → Int32} {f : t2_F} {l : t2_L} {Q : Option fl_V → fl_M → Prop} {x : Int32}  (k : Q (some (.inl (c0_bplace_v f x))) (f, l)) : fl_Tq (pw_P L xs) 29 0 (fl_args (am_mxl (pw_P L xs) 29) [.inr (.inr (.inl (13, 13))), .inl x]) [] (f, l) Q := by
  refine fl_Tq.stp (pc' := 1) (lv' := [some (.inr (.inr (.inl (13, 13)))), some (.inl x), none]) (st' := [.inr (.inr (.inl (13, 13)))]) (m' := (f, l)) rfl rfl (fl_bo rfl) rfl ?_
  refine fl_Tq.gfV (k := 2) (v := f 13 2) rfl (fl_bo rfl) rfl rfl ?_
  refine fl_Tq.stp (pc' := 5) (lv' := [some (.inr (.inr (.inl (13, 13)))), some (.inl x), none]) (st' := [.inl x, .inl (f 13 2)]) (m' := (f, l)) rfl rfl (fl_bo rfl) rfl ?_
  refine fl_Tq.stp (pc' := 6) (lv' := [some (.inr (.inr (.inl (13, 13)))), some (.inl x), none]) (st' := [.inl ((f 13 2) + x)]) (m' := (f, l)) rfl rfl (fl_bo rfl) rfl ?_
  refine fl_Tq.stp (pc' := 7) (lv' := [some (.inr (.inr (.inl (13, 13)))), some (.inl x), some (.inl ((f 13 2) + x))]) (st' := []) (m' := (f, l)) rfl rfl (fl_bo rfl) rfl ?_
  refine fl_Tq.stp (pc' := 8) (lv' := [some (.inr (.inr (.inl (13, 13)))), some (.inl x), some (.inl ((f 13 2) + x))]) (st' := [.inl ((f 13 2) + x)]) (m' := (f, l)) rfl rfl (fl_bo rfl) rfl ?_
  refine fl_Tq.stp (pc' := 9) (lv' := [some (.inr (.inr (.inl (13, 13)))), some (.inl x), some (.inl ((f 13 2) + x))]) (st' := [.inr (.inr (.inl (13, 13))), .inl ((f 13 2) + x)]) (m' := (f, l)) rfl rfl (fl_bo rfl) rfl ?_
  refine fl_Tq.gfV (k := 0) (v := f 13 0) rfl (fl_bo rfl) rfl rfl ?_
  have hj57 : fl_Tq (pw_P L xs) 29 25 [some (.inr (.inr (.inl (13, 13)))), some (.inl x), some (.inl ((f 13 2) + x))] [.inl (c0_bplace_j12_0 f x)] (f, l) Q → fl_Tq (pw_P L xs) 29 12 [some (.inr (.inr (.inl (13, 13)))), some (.inl x), some (.inl ((f 13 2) + x))] [.inl (f 13 0), .inl ((f 13 2) + x)] (f, l) Q := by
    intro hJ
    by_cases h1 : ((f 13 2) + x).toInt < (f 13 0).toInt
    · refine fl_Tq.jt rfl (fl_bo rfl) (c2_lt_t h1) rfl ?_
      refine fl_Tq.stp (pc' := 25) (lv' := [some (.inr (.inr (.inl (13, 13)))), some (.inl x), some (.inl ((f 13 2) + x))]) (st' := [.inl ((f 13 2) + x)]) (m' := (f, l)) rfl rfl (fl_bo rfl) rfl ?_
      have e0 : (c0_bplace_j12_0 f x) = (f 13 2) + x := by simp only [c0_bplace_j12_0, if_pos h1]
      rw [e0] at hJ
      exact hJ
    · refine fl_Tq.jf rfl (fl_bo rfl) (c2_lt_f h1) rfl ?_
      refine fl_Tq.stp (pc' := 16) (lv' := [some (.inr (.inr (.inl (13, 13)))), some (.inl x), some (.inl ((f 13 2) + x))]) (st' := [.inl ((f 13 2) + x)]) (m' := (f, l)) rfl rfl (fl_bo rfl) rfl ?_
      refine fl_Tq.stp (pc' := 17) (lv' := [some (.inr (.inr (.inl (13, 13)))), some (.inl x), some (.inl ((f 13 2) + x))]) (st' := [.inr (.inr (.inl (13, 13))), .inl ((f 13 2) + x)]) (m' := (f, l)) rfl rfl (fl_bo rfl) rfl ?_
      refine fl_Tq.gfV (k := 0) (v := f 13 0) rfl (fl_bo rfl) rfl rfl ?_
      refine fl_Tq.stp (pc' := 21) (lv' := [some (.inr (.inr (.inl (13, 13)))), some (.inl x), some (.inl ((f 13 2) + x))]) (st' := [.inl (((f 13 2) + x) - (f 13 0))]) (m' := (f, l)) rfl rfl (fl_bo rfl) rfl ?_
      refine fl_Tq.stp (pc' := 25) (lv' := [some (.inr (.inr (.inl (13, 13)))), some (.inl x), some (.inl ((f 13 2) + x))]) (st' := [.inl (((f 13 2) + x) - (f 13 0))]) (m' := (f, l)) rfl rfl (fl_bo rfl) rfl ?_
      have e0 : (c0_bplace_j12_0 f x) = ((f 13 2) + x) - (f 13 0) := by simp only [c0_bplace_j12_0, if_neg h1]
      rw [e0] at hJ
      exact hJ
  refine hj57 ?_
  show fl_Tq _ 29 25 [some (.inr (.inr (.inl (13, 13)))), some (.inl x), some (.inl ((f 13 2) + x))] [.inl (c0_bplace_j12_0 f x)] (f, l) _
  exact fl_Tq.ret rfl rfl rfl k
theorem c0_bplace_b {f : t2_F} {x : Int32} (hl : f 13 0 = (24 : Int32) ∧ (0 ≤ (f 13 2).toInt ∧ (f 13 2).toInt ≤ 23) ∧ (0 ≤ (f 13 3).toInt ∧ (f 13 3).toInt ≤ 24)) (hx : 0 ≤ x.toInt ∧ x.toInt ≤ 24) : 0 ≤ (c0_bplace_v f x).toInt ∧ (c0_bplace_v f x).toInt ≤ 23 := by
  have e : (24 : Int32).toInt = 24 := by decide +kernel
  obtain ⟨h1, h2, h3⟩ := hl
  have e2 : (f 13 2 + x).toInt = (f 13 2).toInt + x.toInt := at_add32 (by omega) (by omega)
  unfold c0_bplace_v c0_bplace_j12_0
  rw [h1]
  split
  · omega
  · rename_i h
    rw [at_sub32 (by omega) (by omega)]
    omega
noncomputable def c0_badd_j48_0 (f : t2_F) (x y z : Int32) : Int32 := if (f 13 3).toInt < (f 13 0).toInt then (f 13 3) + (1 : Int32) else f 13 3
noncomputable def c0_badd_j48_1 (f : t2_F) (x y z : Int32) : Int32 := if (f 13 3).toInt < (f 13 0).toInt then f 13 2 else c0_bplace_v (fl_row f 14 (upd (upd (upd (f 14) ((c0_bplace_v f (f 13 3)).toInt.toNat * 3) x) ((c0_bplace_v f (f 13 3)).toInt.toNat * 3 + 1) y) ((c0_bplace_v f (f 13 3)).toInt.toNat * 3 + 2) z)) (1 : Int32)
noncomputable def c0_badd_m (f : t2_F) (x y z : Int32) : t2_F := fl_row (fl_row f 14 (upd (upd (upd (f 14) ((c0_bplace_v f (f 13 3)).toInt.toNat * 3) x) ((c0_bplace_v f (f 13 3)).toInt.toNat * 3 + 1) y) ((c0_bplace_v f (f 13 3)).toInt.toNat * 3 + 2) z)) 13 (upd (upd (f 13) 3 (c0_badd_j48_0 f x y z)) 2 (c0_badd_j48_1 f x y z))
theorem c0_badd_fr {f : t2_F} {x y z : Int32} {p : Nat} (e0 : p ≠ 14) (e1 : p ≠ 13) : c0_badd_m f x y z p = f p := by
  unfold c0_badd_m
  repeat' split
  all_goals first | rfl | simp only [fl_row_ne e0, fl_row_ne e1]
theorem c0_badd_q {L : Nat} {xs : Nat → Int32} {f : t2_F} {l : t2_L} {Q : Option fl_V → fl_M → Prop} {x y z : Int32} (hl : f 13 0 = (24 : Int32) ∧ (0 ≤ (f 13 2).toInt ∧ (f 13 2).toInt ≤ 23) ∧ (0 ≤ (f 13 3).toInt ∧ (f 13 3).toInt ≤ 24)) (k : Q none (c0_badd_m f x y z, l)) : fl_Tq (pw_P L xs) 27 0 (fl_args (am_mxl (pw_P L xs) 27) [.inr (.inr (.inl (13, 13))), .inl x, .inl y, .inl z]) [] (f, l) Q := by
  refine fl_Tq.stp (pc' := 1) (lv' := [some (.inr (.inr (.inl (13, 13)))), some (.inl x), some (.inl y), some (.inl z), none]) (st' := [.inr (.inr (.inl (13, 13)))]) (m' := (f, l)) rfl rfl (fl_bo rfl) rfl ?_
  refine fl_Tq.stp (pc' := 2) (lv' := [some (.inr (.inr (.inl (13, 13)))), some (.inl x), some (.inl y), some (.inl z), none]) (st' := [.inr (.inr (.inl (13, 13))), .inr (.inr (.inl (13, 13)))]) (m' := (f, l)) rfl rfl (fl_bo rfl) rfl ?_
  refine fl_Tq.gfV (k := 3) (v := f 13 3) rfl (fl_bo rfl) rfl rfl ?_
  refine fl_Tq.cal rfl rfl (fl_bo rfl) rfl ?_
  refine c0_bplace_q  ?_
  show fl_Tq _ 27 8 [some (.inr (.inr (.inl (13, 13)))), some (.inl x), some (.inl y), some (.inl z), none] [.inl (c0_bplace_v f (f 13 3))] (f, l) _
  refine fl_Tq.cI (c := (3 : Int32)) rfl (by decide +kernel) (fl_bo rfl) ?_
  refine fl_Tq.stp (pc' := 10) (lv' := [some (.inr (.inr (.inl (13, 13)))), some (.inl x), some (.inl y), some (.inl z), none]) (st' := [.inl ((c0_bplace_v f (f 13 3)) * (3 : Int32))]) (m' := (f, l)) rfl rfl (fl_bo rfl) rfl ?_
  refine fl_Tq.stp (pc' := 12) (lv' := [some (.inr (.inr (.inl (13, 13)))), some (.inl x), some (.inl y), some (.inl z), some (.inl ((c0_bplace_v f (f 13 3)) * (3 : Int32)))]) (st' := []) (m' := (f, l)) rfl rfl (fl_bo rfl) rfl ?_
  refine fl_Tq.stp (pc' := 13) (lv' := [some (.inr (.inr (.inl (13, 13)))), some (.inl x), some (.inl y), some (.inl z), some (.inl ((c0_bplace_v f (f 13 3)) * (3 : Int32)))]) (st' := [.inr (.inr (.inl (13, 13)))]) (m' := (f, l)) rfl rfl (fl_bo rfl) rfl ?_
  refine fl_Tq.stp (pc' := 16) (lv' := [some (.inr (.inr (.inl (13, 13)))), some (.inl x), some (.inl y), some (.inl z), some (.inl ((c0_bplace_v f (f 13 3)) * (3 : Int32)))]) (st' := [.inr (.inr (.inl (14, 14)))]) (m' := (f, l)) rfl rfl (fl_bo rfl) rfl ?_
  refine fl_Tq.stp (pc' := 18) (lv' := [some (.inr (.inr (.inl (13, 13)))), some (.inl x), some (.inl y), some (.inl z), some (.inl ((c0_bplace_v f (f 13 3)) * (3 : Int32)))]) (st' := [.inl ((c0_bplace_v f (f 13 3)) * (3 : Int32)), .inr (.inr (.inl (14, 14)))]) (m' := (f, l)) rfl rfl (fl_bo rfl) rfl ?_
  refine fl_Tq.stp (pc' := 19) (lv' := [some (.inr (.inr (.inl (13, 13)))), some (.inl x), some (.inl y), some (.inl z), some (.inl ((c0_bplace_v f (f 13 3)) * (3 : Int32)))]) (st' := [.inl x, .inl ((c0_bplace_v f (f 13 3)) * (3 : Int32)), .inr (.inr (.inl (14, 14)))]) (m' := (f, l)) rfl rfl (fl_bo rfl) rfl ?_
  refine fl_Tq.svV (p := 14) (τ := 14) (n := 72) (z := (0, 0, 0)) (k := (c0_bplace_v f (f 13 3)).toInt.toNat * 3) (m' := (fl_row f 14 (upd (f 14) ((c0_bplace_v f (f 13 3)).toInt.toNat * 3) x), l)) rfl (fl_bo rfl) rfl (t2_im (have hb := (c0_bplace_b hl hl.2.2); t2_nn hb.1) (by decide +kernel) (by have hb := (c0_bplace_b hl hl.2.2); omega)) (by have hb := (c0_bplace_b hl hl.2.2); omega) (t2_upn rfl) ?_
  refine fl_Tq.stp (pc' := 21) (lv' := [some (.inr (.inr (.inl (13, 13)))), some (.inl x), some (.inl y), some (.inl z), some (.inl ((c0_bplace_v f (f 13 3)) * (3 : Int32)))]) (st' := [.inr (.inr (.inl (13, 13)))]) (m' := (fl_row f 14 (upd (f 14) ((c0_bplace_v f (f 13 3)).toInt.toNat * 3) x), l)) rfl rfl (fl_bo rfl) rfl ?_
  refine fl_Tq.stp (pc' := 24) (lv' := [some (.inr (.inr (.inl (13, 13)))), some (.inl x), some (.inl y), some (.inl z), some (.inl ((c0_bplace_v f (f 13 3)) * (3 : Int32)))]) (st' := [.inr (.inr (.inl (14, 14)))]) (m' := (fl_row f 14 (upd (f 14) ((c0_bplace_v f (f 13 3)).toInt.toNat * 3) x), l)) rfl rfl (fl_bo rfl) rfl ?_
  refine fl_Tq.stp (pc' := 26) (lv' := [some (.inr (.inr (.inl (13, 13)))), some (.inl x), some (.inl y), some (.inl z), some (.inl ((c0_bplace_v f (f 13 3)) * (3 : Int32)))]) (st' := [.inl ((c0_bplace_v f (f 13 3)) * (3 : Int32)), .inr (.inr (.inl (14, 14)))]) (m' := (fl_row f 14 (upd (f 14) ((c0_bplace_v f (f 13 3)).toInt.toNat * 3) x), l)) rfl rfl (fl_bo rfl) rfl ?_
  refine fl_Tq.cI (c := (1 : Int32)) rfl (by decide +kernel) (fl_bo rfl) ?_
  refine fl_Tq.stp (pc' := 28) (lv' := [some (.inr (.inr (.inl (13, 13)))), some (.inl x), some (.inl y), some (.inl z), some (.inl ((c0_bplace_v f (f 13 3)) * (3 : Int32)))]) (st' := [.inl (((c0_bplace_v f (f 13 3)) * (3 : Int32)) + (1 : Int32)), .inr (.inr (.inl (14, 14)))]) (m' := (fl_row f 14 (upd (f 14) ((c0_bplace_v f (f 13 3)).toInt.toNat * 3) x), l)) rfl rfl (fl_bo rfl) rfl ?_
  refine fl_Tq.stp (pc' := 29) (lv' := [some (.inr (.inr (.inl (13, 13)))), some (.inl x), some (.inl y), some (.inl z), some (.inl ((c0_bplace_v f (f 13 3)) * (3 : Int32)))]) (st' := [.inl y, .inl (((c0_bplace_v f (f 13 3)) * (3 : Int32)) + (1 : Int32)), .inr (.inr (.inl (14, 14)))]) (m' := (fl_row f 14 (upd (f 14) ((c0_bplace_v f (f 13 3)).toInt.toNat * 3) x), l)) rfl rfl (fl_bo rfl) rfl ?_
  refine fl_Tq.svV (p := 14) (τ := 14) (n := 72) (z := (0, 0, 0)) (k := (c0_bplace_v f (f 13 3)).toInt.toNat * 3 + 1) (m' := (fl_row f 14 (upd (upd (f 14) ((c0_bplace_v f (f 13 3)).toInt.toNat * 3) x) ((c0_bplace_v f (f 13 3)).toInt.toNat * 3 + 1) y), l)) rfl (fl_bo rfl) rfl (t2_ia (t2_im (have hb := (c0_bplace_b hl hl.2.2); t2_nn hb.1) (by decide +kernel) (by have hb := (c0_bplace_b hl hl.2.2); omega)) (by decide +kernel) (by have hb := (c0_bplace_b hl hl.2.2); omega)) (by have hb := (c0_bplace_b hl hl.2.2); omega) (t2_upr) ?_
  refine fl_Tq.stp (pc' := 31) (lv' := [some (.inr (.inr (.inl (13, 13)))), some (.inl x), some (.inl y), some (.inl z), some (.inl ((c0_bplace_v f (f 13 3)) * (3 : Int32)))]) (st' := [.inr (.inr (.inl (13, 13)))]) (m' := (fl_row f 14 (upd (upd (f 14) ((c0_bplace_v f (f 13 3)).toInt.toNat * 3) x) ((c0_bplace_v f (f 13 3)).toInt.toNat * 3 + 1) y), l)) rfl rfl (fl_bo rfl) rfl ?_
  refine fl_Tq.stp (pc' := 34) (lv' := [some (.inr (.inr (.inl (13, 13)))), some (.inl x), some (.inl y), some (.inl z), some (.inl ((c0_bplace_v f (f 13 3)) * (3 : Int32)))]) (st' := [.inr (.inr (.inl (14, 14)))]) (m' := (fl_row f 14 (upd (upd (f 14) ((c0_bplace_v f (f 13 3)).toInt.toNat * 3) x) ((c0_bplace_v f (f 13 3)).toInt.toNat * 3 + 1) y), l)) rfl rfl (fl_bo rfl) rfl ?_
  refine fl_Tq.stp (pc' := 36) (lv' := [some (.inr (.inr (.inl (13, 13)))), some (.inl x), some (.inl y), some (.inl z), some (.inl ((c0_bplace_v f (f 13 3)) * (3 : Int32)))]) (st' := [.inl ((c0_bplace_v f (f 13 3)) * (3 : Int32)), .inr (.inr (.inl (14, 14)))]) (m' := (fl_row f 14 (upd (upd (f 14) ((c0_bplace_v f (f 13 3)).toInt.toNat * 3) x) ((c0_bplace_v f (f 13 3)).toInt.toNat * 3 + 1) y), l)) rfl rfl (fl_bo rfl) rfl ?_
  refine fl_Tq.cI (c := (2 : Int32)) rfl (by decide +kernel) (fl_bo rfl) ?_
  refine fl_Tq.stp (pc' := 38) (lv' := [some (.inr (.inr (.inl (13, 13)))), some (.inl x), some (.inl y), some (.inl z), some (.inl ((c0_bplace_v f (f 13 3)) * (3 : Int32)))]) (st' := [.inl (((c0_bplace_v f (f 13 3)) * (3 : Int32)) + (2 : Int32)), .inr (.inr (.inl (14, 14)))]) (m' := (fl_row f 14 (upd (upd (f 14) ((c0_bplace_v f (f 13 3)).toInt.toNat * 3) x) ((c0_bplace_v f (f 13 3)).toInt.toNat * 3 + 1) y), l)) rfl rfl (fl_bo rfl) rfl ?_
  refine fl_Tq.stp (pc' := 39) (lv' := [some (.inr (.inr (.inl (13, 13)))), some (.inl x), some (.inl y), some (.inl z), some (.inl ((c0_bplace_v f (f 13 3)) * (3 : Int32)))]) (st' := [.inl z, .inl (((c0_bplace_v f (f 13 3)) * (3 : Int32)) + (2 : Int32)), .inr (.inr (.inl (14, 14)))]) (m' := (fl_row f 14 (upd (upd (f 14) ((c0_bplace_v f (f 13 3)).toInt.toNat * 3) x) ((c0_bplace_v f (f 13 3)).toInt.toNat * 3 + 1) y), l)) rfl rfl (fl_bo rfl) rfl ?_
  refine fl_Tq.svV (p := 14) (τ := 14) (n := 72) (z := (0, 0, 0)) (k := (c0_bplace_v f (f 13 3)).toInt.toNat * 3 + 2) (m' := (fl_row f 14 (upd (upd (upd (f 14) ((c0_bplace_v f (f 13 3)).toInt.toNat * 3) x) ((c0_bplace_v f (f 13 3)).toInt.toNat * 3 + 1) y) ((c0_bplace_v f (f 13 3)).toInt.toNat * 3 + 2) z), l)) rfl (fl_bo rfl) rfl (t2_ia (t2_im (have hb := (c0_bplace_b hl hl.2.2); t2_nn hb.1) (by decide +kernel) (by have hb := (c0_bplace_b hl hl.2.2); omega)) (by decide +kernel) (by have hb := (c0_bplace_b hl hl.2.2); omega)) (by have hb := (c0_bplace_b hl hl.2.2); omega) (t2_upr) ?_
  refine fl_Tq.stp (pc' := 41) (lv' := [some (.inr (.inr (.inl (13, 13)))), some (.inl x), some (.inl y), some (.inl z), some (.inl ((c0_bplace_v f (f 13 3)) * (3 : Int32)))]) (st' := [.inr (.inr (.inl (13, 13)))]) (m' := (fl_row f 14 (upd (upd (upd (f 14) ((c0_bplace_v f (f 13 3)).toInt.toNat * 3) x) ((c0_bplace_v f (f 13 3)).toInt.toNat * 3 + 1) y) ((c0_bplace_v f (f 13 3)).toInt.toNat * 3 + 2) z), l)) rfl rfl (fl_bo rfl) rfl ?_
  refine fl_Tq.gfV (k := 3) (v := f 13 3) rfl (fl_bo rfl) rfl (by simp only [fl_row_ne (by decide : 13 ≠ 14)]) ?_
  refine fl_Tq.stp (pc' := 45) (lv' := [some (.inr (.inr (.inl (13, 13)))), some (.inl x), some (.inl y), some (.inl z), some (.inl ((c0_bplace_v f (f 13 3)) * (3 : Int32)))]) (st' := [.inr (.inr (.inl (13, 13))), .inl (f 13 3)]) (m' := (fl_row f 14 (upd (upd (upd (f 14) ((c0_bplace_v f (f 13 3)).toInt.toNat * 3) x) ((c0_bplace_v f (f 13 3)).toInt.toNat * 3 + 1) y) ((c0_bplace_v f (f 13 3)).toInt.toNat * 3 + 2) z), l)) rfl rfl (fl_bo rfl) rfl ?_
  refine fl_Tq.gfV (k := 0) (v := f 13 0) rfl (fl_bo rfl) rfl (by simp only [fl_row_ne (by decide : 13 ≠ 14)]) ?_
  have hj58 : fl_Tq (pw_P L xs) 27 73 [some (.inr (.inr (.inl (13, 13)))), some (.inl x), some (.inl y), some (.inl z), some (.inl ((c0_bplace_v f (f 13 3)) * (3 : Int32)))] [] (fl_row (fl_row f 14 (upd (upd (upd (f 14) ((c0_bplace_v f (f 13 3)).toInt.toNat * 3) x) ((c0_bplace_v f (f 13 3)).toInt.toNat * 3 + 1) y) ((c0_bplace_v f (f 13 3)).toInt.toNat * 3 + 2) z)) 13 (upd (upd (f 13) 3 (c0_badd_j48_0 f x y z)) 2 (c0_badd_j48_1 f x y z)), l) Q → fl_Tq (pw_P L xs) 27 48 [some (.inr (.inr (.inl (13, 13)))), some (.inl x), some (.inl y), some (.inl z), some (.inl ((c0_bplace_v f (f 13 3)) * (3 : Int32)))] [.inl (f 13 0), .inl (f 13 3)] (fl_row f 14 (upd (upd (upd (f 14) ((c0_bplace_v f (f 13 3)).toInt.toNat * 3) x) ((c0_bplace_v f (f 13 3)).toInt.toNat * 3 + 1) y) ((c0_bplace_v f (f 13 3)).toInt.toNat * 3 + 2) z), l) Q := by
    intro hJ
    by_cases h1 : (f 13 3).toInt < (f 13 0).toInt
    · refine fl_Tq.jf rfl (fl_bo rfl) (c2_ge_f h1) rfl ?_
      refine fl_Tq.stp (pc' := 52) (lv' := [some (.inr (.inr (.inl (13, 13)))), some (.inl x), some (.inl y), some (.inl z), some (.inl ((c0_bplace_v f (f 13 3)) * (3 : Int32)))]) (st' := [.inr (.inr (.inl (13, 13)))]) (m' := (fl_row f 14 (upd (upd (upd (f 14) ((c0_bplace_v f (f 13 3)).toInt.toNat * 3) x) ((c0_bplace_v f (f 13 3)).toInt.toNat * 3 + 1) y) ((c0_bplace_v f (f 13 3)).toInt.toNat * 3 + 2) z), l)) rfl rfl (fl_bo rfl) rfl ?_
      refine fl_Tq.stp (pc' := 53) (lv' := [some (.inr (.inr (.inl (13, 13)))), some (.inl x), some (.inl y), some (.inl z), some (.inl ((c0_bplace_v f (f 13 3)) * (3 : Int32)))]) (st' := [.inr (.inr (.inl (13, 13))), .inr (.inr (.inl (13, 13)))]) (m' := (fl_row f 14 (upd (upd (upd (f 14) ((c0_bplace_v f (f 13 3)).toInt.toNat * 3) x) ((c0_bplace_v f (f 13 3)).toInt.toNat * 3 + 1) y) ((c0_bplace_v f (f 13 3)).toInt.toNat * 3 + 2) z), l)) rfl rfl (fl_bo rfl) rfl ?_
      refine fl_Tq.gfV (k := 3) (v := f 13 3) rfl (fl_bo rfl) rfl (by simp only [fl_row_ne (by decide : 13 ≠ 14)]) ?_
      refine fl_Tq.cI (c := (1 : Int32)) rfl (by decide +kernel) (fl_bo rfl) ?_
      refine fl_Tq.stp (pc' := 58) (lv' := [some (.inr (.inr (.inl (13, 13)))), some (.inl x), some (.inl y), some (.inl z), some (.inl ((c0_bplace_v f (f 13 3)) * (3 : Int32)))]) (st' := [.inl ((f 13 3) + (1 : Int32)), .inr (.inr (.inl (13, 13)))]) (m' := (fl_row f 14 (upd (upd (upd (f 14) ((c0_bplace_v f (f 13 3)).toInt.toNat * 3) x) ((c0_bplace_v f (f 13 3)).toInt.toNat * 3 + 1) y) ((c0_bplace_v f (f 13 3)).toInt.toNat * 3 + 2) z), l)) rfl rfl (fl_bo rfl) rfl ?_
      refine fl_Tq.pfV (k := 3) (m' := (fl_row (fl_row f 14 (upd (upd (upd (f 14) ((c0_bplace_v f (f 13 3)).toInt.toNat * 3) x) ((c0_bplace_v f (f 13 3)).toInt.toNat * 3 + 1) y) ((c0_bplace_v f (f 13 3)).toInt.toNat * 3 + 2) z)) 13 (upd (f 13) 3 ((f 13 3) + (1 : Int32))), l)) rfl (fl_bo rfl) rfl (t2_upn (by rw [fl_row_ne (by decide : 13 ≠ 14)])) ?_
      refine fl_Tq.stp (pc' := 73) (lv' := [some (.inr (.inr (.inl (13, 13)))), some (.inl x), some (.inl y), some (.inl z), some (.inl ((c0_bplace_v f (f 13 3)) * (3 : Int32)))]) (st' := []) (m' := (fl_row (fl_row f 14 (upd (upd (upd (f 14) ((c0_bplace_v f (f 13 3)).toInt.toNat * 3) x) ((c0_bplace_v f (f 13 3)).toInt.toNat * 3 + 1) y) ((c0_bplace_v f (f 13 3)).toInt.toNat * 3 + 2) z)) 13 (upd (f 13) 3 ((f 13 3) + (1 : Int32))), l)) rfl rfl (fl_bo rfl) rfl ?_
      have e0 : (fl_row (fl_row f 14 (upd (upd (upd (f 14) ((c0_bplace_v f (f 13 3)).toInt.toNat * 3) x) ((c0_bplace_v f (f 13 3)).toInt.toNat * 3 + 1) y) ((c0_bplace_v f (f 13 3)).toInt.toNat * 3 + 2) z)) 13 (upd (upd (f 13) 3 (c0_badd_j48_0 f x y z)) 2 (c0_badd_j48_1 f x y z))) = fl_row (fl_row f 14 (upd (upd (upd (f 14) ((c0_bplace_v f (f 13 3)).toInt.toNat * 3) x) ((c0_bplace_v f (f 13 3)).toInt.toNat * 3 + 1) y) ((c0_bplace_v f (f 13 3)).toInt.toNat * 3 + 2) z)) 13 (upd (f 13) 3 ((f 13 3) + (1 : Int32))) := by
        simp only [c0_badd_j48_0, c0_badd_j48_1, if_pos h1]
        funext q j
        simp only [fl_row, upd]
        repeat' split
        all_goals first | rfl | simp_all
      rw [e0] at hJ
      exact hJ
    · refine fl_Tq.jt rfl (fl_bo rfl) (c2_ge_t h1) rfl ?_
      refine fl_Tq.stp (pc' := 65) (lv' := [some (.inr (.inr (.inl (13, 13)))), some (.inl x), some (.inl y), some (.inl z), some (.inl ((c0_bplace_v f (f 13 3)) * (3 : Int32)))]) (st' := [.inr (.inr (.inl (13, 13)))]) (m' := (fl_row f 14 (upd (upd (upd (f 14) ((c0_bplace_v f (f 13 3)).toInt.toNat * 3) x) ((c0_bplace_v f (f 13 3)).toInt.toNat * 3 + 1) y) ((c0_bplace_v f (f 13 3)).toInt.toNat * 3 + 2) z), l)) rfl rfl (fl_bo rfl) rfl ?_
      refine fl_Tq.stp (pc' := 66) (lv' := [some (.inr (.inr (.inl (13, 13)))), some (.inl x), some (.inl y), some (.inl z), some (.inl ((c0_bplace_v f (f 13 3)) * (3 : Int32)))]) (st' := [.inr (.inr (.inl (13, 13))), .inr (.inr (.inl (13, 13)))]) (m' := (fl_row f 14 (upd (upd (upd (f 14) ((c0_bplace_v f (f 13 3)).toInt.toNat * 3) x) ((c0_bplace_v f (f 13 3)).toInt.toNat * 3 + 1) y) ((c0_bplace_v f (f 13 3)).toInt.toNat * 3 + 2) z), l)) rfl rfl (fl_bo rfl) rfl ?_
      refine fl_Tq.cI (c := (1 : Int32)) rfl (by decide +kernel) (fl_bo rfl) ?_
      refine fl_Tq.cal rfl rfl (fl_bo rfl) rfl ?_
      refine c0_bplace_q  ?_
      show fl_Tq _ 27 70 [some (.inr (.inr (.inl (13, 13)))), some (.inl x), some (.inl y), some (.inl z), some (.inl ((c0_bplace_v f (f 13 3)) * (3 : Int32)))] [.inl (c0_bplace_v (fl_row f 14 (upd (upd (upd (f 14) ((c0_bplace_v f (f 13 3)).toInt.toNat * 3) x) ((c0_bplace_v f (f 13 3)).toInt.toNat * 3 + 1) y) ((c0_bplace_v f (f 13 3)).toInt.toNat * 3 + 2) z)) (1 : Int32)), .inr (.inr (.inl (13, 13)))] (fl_row f 14 (upd (upd (upd (f 14) ((c0_bplace_v f (f 13 3)).toInt.toNat * 3) x) ((c0_bplace_v f (f 13 3)).toInt.toNat * 3 + 1) y) ((c0_bplace_v f (f 13 3)).toInt.toNat * 3 + 2) z), l) _
      refine fl_Tq.pfV (k := 2) (m' := (fl_row (fl_row f 14 (upd (upd (upd (f 14) ((c0_bplace_v f (f 13 3)).toInt.toNat * 3) x) ((c0_bplace_v f (f 13 3)).toInt.toNat * 3 + 1) y) ((c0_bplace_v f (f 13 3)).toInt.toNat * 3 + 2) z)) 13 (upd (f 13) 2 (c0_bplace_v (fl_row f 14 (upd (upd (upd (f 14) ((c0_bplace_v f (f 13 3)).toInt.toNat * 3) x) ((c0_bplace_v f (f 13 3)).toInt.toNat * 3 + 1) y) ((c0_bplace_v f (f 13 3)).toInt.toNat * 3 + 2) z)) (1 : Int32))), l)) rfl (fl_bo rfl) rfl (t2_upn (by rw [fl_row_ne (by decide : 13 ≠ 14)])) ?_
      have e0 : (fl_row (fl_row f 14 (upd (upd (upd (f 14) ((c0_bplace_v f (f 13 3)).toInt.toNat * 3) x) ((c0_bplace_v f (f 13 3)).toInt.toNat * 3 + 1) y) ((c0_bplace_v f (f 13 3)).toInt.toNat * 3 + 2) z)) 13 (upd (upd (f 13) 3 (c0_badd_j48_0 f x y z)) 2 (c0_badd_j48_1 f x y z))) = fl_row (fl_row f 14 (upd (upd (upd (f 14) ((c0_bplace_v f (f 13 3)).toInt.toNat * 3) x) ((c0_bplace_v f (f 13 3)).toInt.toNat * 3 + 1) y) ((c0_bplace_v f (f 13 3)).toInt.toNat * 3 + 2) z)) 13 (upd (f 13) 2 (c0_bplace_v (fl_row f 14 (upd (upd (upd (f 14) ((c0_bplace_v f (f 13 3)).toInt.toNat * 3) x) ((c0_bplace_v f (f 13 3)).toInt.toNat * 3 + 1) y) ((c0_bplace_v f (f 13 3)).toInt.toNat * 3 + 2) z)) (1 : Int32))) := by
        simp only [c0_badd_j48_0, c0_badd_j48_1, if_neg h1]
        funext q j
        simp only [fl_row, upd]
        repeat' split
        all_goals first | rfl | simp_all
      rw [e0] at hJ
      exact hJ
  refine hj58 ?_
  show fl_Tq _ 27 73 [some (.inr (.inr (.inl (13, 13)))), some (.inl x), some (.inl y), some (.inl z), some (.inl ((c0_bplace_v f (f 13 3)) * (3 : Int32)))] [] (fl_row (fl_row f 14 (upd (upd (upd (f 14) ((c0_bplace_v f (f 13 3)).toInt.toNat * 3) x) ((c0_bplace_v f (f 13 3)).toInt.toNat * 3 + 1) y) ((c0_bplace_v f (f 13 3)).toInt.toNat * 3 + 2) z)) 13 (upd (upd (f 13) 3 (c0_badd_j48_0 f x y z)) 2 (c0_badd_j48_1 f x y z)), l) _
  exact fl_Tq.ret rfl rfl rfl k
noncomputable def c0_tplace_j12_0 (f : t2_F) (x : Int32) : Int32 := if ((f 16 2) + x).toInt < (f 16 0).toInt then (f 16 2) + x else ((f 16 2) + x) - (f 16 0)
noncomputable def c0_tplace_v (f : t2_F) (x : Int32) : Int32 := c0_tplace_j12_0 f x
theorem c0_tplace_q {L : Nat} {xs : Nat → Int32} {f : t2_F} {l : t2_L} {Q : Option fl_V → fl_M → Prop} {x : Int32}  (k : Q (some (.inl (c0_tplace_v f x))) (f, l)) : fl_Tq (pw_P L xs) 29 0 (fl_args (am_mxl (pw_P L xs) 29) [.inr (.inr (.inl (16, 16))), .inl x]) [] (f, l) Q := by
  refine fl_Tq.stp (pc' := 1) (lv' := [some (.inr (.inr (.inl (16, 16)))), some (.inl x), none]) (st' := [.inr (.inr (.inl (16, 16)))]) (m' := (f, l)) rfl rfl (fl_bo rfl) rfl ?_
  refine fl_Tq.gfV (k := 2) (v := f 16 2) rfl (fl_bo rfl) rfl rfl ?_
  refine fl_Tq.stp (pc' := 5) (lv' := [some (.inr (.inr (.inl (16, 16)))), some (.inl x), none]) (st' := [.inl x, .inl (f 16 2)]) (m' := (f, l)) rfl rfl (fl_bo rfl) rfl ?_
  refine fl_Tq.stp (pc' := 6) (lv' := [some (.inr (.inr (.inl (16, 16)))), some (.inl x), none]) (st' := [.inl ((f 16 2) + x)]) (m' := (f, l)) rfl rfl (fl_bo rfl) rfl ?_
  refine fl_Tq.stp (pc' := 7) (lv' := [some (.inr (.inr (.inl (16, 16)))), some (.inl x), some (.inl ((f 16 2) + x))]) (st' := []) (m' := (f, l)) rfl rfl (fl_bo rfl) rfl ?_
  refine fl_Tq.stp (pc' := 8) (lv' := [some (.inr (.inr (.inl (16, 16)))), some (.inl x), some (.inl ((f 16 2) + x))]) (st' := [.inl ((f 16 2) + x)]) (m' := (f, l)) rfl rfl (fl_bo rfl) rfl ?_
  refine fl_Tq.stp (pc' := 9) (lv' := [some (.inr (.inr (.inl (16, 16)))), some (.inl x), some (.inl ((f 16 2) + x))]) (st' := [.inr (.inr (.inl (16, 16))), .inl ((f 16 2) + x)]) (m' := (f, l)) rfl rfl (fl_bo rfl) rfl ?_
  refine fl_Tq.gfV (k := 0) (v := f 16 0) rfl (fl_bo rfl) rfl rfl ?_
  have hj59 : fl_Tq (pw_P L xs) 29 25 [some (.inr (.inr (.inl (16, 16)))), some (.inl x), some (.inl ((f 16 2) + x))] [.inl (c0_tplace_j12_0 f x)] (f, l) Q → fl_Tq (pw_P L xs) 29 12 [some (.inr (.inr (.inl (16, 16)))), some (.inl x), some (.inl ((f 16 2) + x))] [.inl (f 16 0), .inl ((f 16 2) + x)] (f, l) Q := by
    intro hJ
    by_cases h1 : ((f 16 2) + x).toInt < (f 16 0).toInt
    · refine fl_Tq.jt rfl (fl_bo rfl) (c2_lt_t h1) rfl ?_
      refine fl_Tq.stp (pc' := 25) (lv' := [some (.inr (.inr (.inl (16, 16)))), some (.inl x), some (.inl ((f 16 2) + x))]) (st' := [.inl ((f 16 2) + x)]) (m' := (f, l)) rfl rfl (fl_bo rfl) rfl ?_
      have e0 : (c0_tplace_j12_0 f x) = (f 16 2) + x := by simp only [c0_tplace_j12_0, if_pos h1]
      rw [e0] at hJ
      exact hJ
    · refine fl_Tq.jf rfl (fl_bo rfl) (c2_lt_f h1) rfl ?_
      refine fl_Tq.stp (pc' := 16) (lv' := [some (.inr (.inr (.inl (16, 16)))), some (.inl x), some (.inl ((f 16 2) + x))]) (st' := [.inl ((f 16 2) + x)]) (m' := (f, l)) rfl rfl (fl_bo rfl) rfl ?_
      refine fl_Tq.stp (pc' := 17) (lv' := [some (.inr (.inr (.inl (16, 16)))), some (.inl x), some (.inl ((f 16 2) + x))]) (st' := [.inr (.inr (.inl (16, 16))), .inl ((f 16 2) + x)]) (m' := (f, l)) rfl rfl (fl_bo rfl) rfl ?_
      refine fl_Tq.gfV (k := 0) (v := f 16 0) rfl (fl_bo rfl) rfl rfl ?_
      refine fl_Tq.stp (pc' := 21) (lv' := [some (.inr (.inr (.inl (16, 16)))), some (.inl x), some (.inl ((f 16 2) + x))]) (st' := [.inl (((f 16 2) + x) - (f 16 0))]) (m' := (f, l)) rfl rfl (fl_bo rfl) rfl ?_
      refine fl_Tq.stp (pc' := 25) (lv' := [some (.inr (.inr (.inl (16, 16)))), some (.inl x), some (.inl ((f 16 2) + x))]) (st' := [.inl (((f 16 2) + x) - (f 16 0))]) (m' := (f, l)) rfl rfl (fl_bo rfl) rfl ?_
      have e0 : (c0_tplace_j12_0 f x) = ((f 16 2) + x) - (f 16 0) := by simp only [c0_tplace_j12_0, if_neg h1]
      rw [e0] at hJ
      exact hJ
  refine hj59 ?_
  show fl_Tq _ 29 25 [some (.inr (.inr (.inl (16, 16)))), some (.inl x), some (.inl ((f 16 2) + x))] [.inl (c0_tplace_j12_0 f x)] (f, l) _
  exact fl_Tq.ret rfl rfl rfl k
theorem c0_tplace_b {f : t2_F} {x : Int32} (hl : f 16 0 = (32 : Int32) ∧ (0 ≤ (f 16 2).toInt ∧ (f 16 2).toInt ≤ 31) ∧ (0 ≤ (f 16 3).toInt ∧ (f 16 3).toInt ≤ 32)) (hx : 0 ≤ x.toInt ∧ x.toInt ≤ 32) : 0 ≤ (c0_tplace_v f x).toInt ∧ (c0_tplace_v f x).toInt ≤ 31 := by
  have e : (32 : Int32).toInt = 32 := by decide +kernel
  obtain ⟨h1, h2, h3⟩ := hl
  have e2 : (f 16 2 + x).toInt = (f 16 2).toInt + x.toInt := at_add32 (by omega) (by omega)
  unfold c0_tplace_v c0_tplace_j12_0
  rw [h1]
  split
  · omega
  · rename_i h
    rw [at_sub32 (by omega) (by omega)]
    omega
noncomputable def c0_tadd_j48_0 (f : t2_F) (x y z : Int32) : Int32 := if (f 16 3).toInt < (f 16 0).toInt then (f 16 3) + (1 : Int32) else f 16 3
noncomputable def c0_tadd_j48_1 (f : t2_F) (x y z : Int32) : Int32 := if (f 16 3).toInt < (f 16 0).toInt then f 16 2 else c0_tplace_v (fl_row f 17 (upd (upd (upd (f 17) ((c0_tplace_v f (f 16 3)).toInt.toNat * 3) x) ((c0_tplace_v f (f 16 3)).toInt.toNat * 3 + 1) y) ((c0_tplace_v f (f 16 3)).toInt.toNat * 3 + 2) z)) (1 : Int32)
noncomputable def c0_tadd_m (f : t2_F) (x y z : Int32) : t2_F := fl_row (fl_row f 17 (upd (upd (upd (f 17) ((c0_tplace_v f (f 16 3)).toInt.toNat * 3) x) ((c0_tplace_v f (f 16 3)).toInt.toNat * 3 + 1) y) ((c0_tplace_v f (f 16 3)).toInt.toNat * 3 + 2) z)) 16 (upd (upd (f 16) 3 (c0_tadd_j48_0 f x y z)) 2 (c0_tadd_j48_1 f x y z))
theorem c0_tadd_fr {f : t2_F} {x y z : Int32} {p : Nat} (e0 : p ≠ 17) (e1 : p ≠ 16) : c0_tadd_m f x y z p = f p := by
  unfold c0_tadd_m
  repeat' split
  all_goals first | rfl | simp only [fl_row_ne e0, fl_row_ne e1]
theorem c0_tadd_q {L : Nat} {xs : Nat → Int32} {f : t2_F} {l : t2_L} {Q : Option fl_V → fl_M → Prop} {x y z : Int32} (hl : f 16 0 = (32 : Int32) ∧ (0 ≤ (f 16 2).toInt ∧ (f 16 2).toInt ≤ 31) ∧ (0 ≤ (f 16 3).toInt ∧ (f 16 3).toInt ≤ 32)) (k : Q none (c0_tadd_m f x y z, l)) : fl_Tq (pw_P L xs) 27 0 (fl_args (am_mxl (pw_P L xs) 27) [.inr (.inr (.inl (16, 16))), .inl x, .inl y, .inl z]) [] (f, l) Q := by
  refine fl_Tq.stp (pc' := 1) (lv' := [some (.inr (.inr (.inl (16, 16)))), some (.inl x), some (.inl y), some (.inl z), none]) (st' := [.inr (.inr (.inl (16, 16)))]) (m' := (f, l)) rfl rfl (fl_bo rfl) rfl ?_
  refine fl_Tq.stp (pc' := 2) (lv' := [some (.inr (.inr (.inl (16, 16)))), some (.inl x), some (.inl y), some (.inl z), none]) (st' := [.inr (.inr (.inl (16, 16))), .inr (.inr (.inl (16, 16)))]) (m' := (f, l)) rfl rfl (fl_bo rfl) rfl ?_
  refine fl_Tq.gfV (k := 3) (v := f 16 3) rfl (fl_bo rfl) rfl rfl ?_
  refine fl_Tq.cal rfl rfl (fl_bo rfl) rfl ?_
  refine c0_tplace_q  ?_
  show fl_Tq _ 27 8 [some (.inr (.inr (.inl (16, 16)))), some (.inl x), some (.inl y), some (.inl z), none] [.inl (c0_tplace_v f (f 16 3))] (f, l) _
  refine fl_Tq.cI (c := (3 : Int32)) rfl (by decide +kernel) (fl_bo rfl) ?_
  refine fl_Tq.stp (pc' := 10) (lv' := [some (.inr (.inr (.inl (16, 16)))), some (.inl x), some (.inl y), some (.inl z), none]) (st' := [.inl ((c0_tplace_v f (f 16 3)) * (3 : Int32))]) (m' := (f, l)) rfl rfl (fl_bo rfl) rfl ?_
  refine fl_Tq.stp (pc' := 12) (lv' := [some (.inr (.inr (.inl (16, 16)))), some (.inl x), some (.inl y), some (.inl z), some (.inl ((c0_tplace_v f (f 16 3)) * (3 : Int32)))]) (st' := []) (m' := (f, l)) rfl rfl (fl_bo rfl) rfl ?_
  refine fl_Tq.stp (pc' := 13) (lv' := [some (.inr (.inr (.inl (16, 16)))), some (.inl x), some (.inl y), some (.inl z), some (.inl ((c0_tplace_v f (f 16 3)) * (3 : Int32)))]) (st' := [.inr (.inr (.inl (16, 16)))]) (m' := (f, l)) rfl rfl (fl_bo rfl) rfl ?_
  refine fl_Tq.stp (pc' := 16) (lv' := [some (.inr (.inr (.inl (16, 16)))), some (.inl x), some (.inl y), some (.inl z), some (.inl ((c0_tplace_v f (f 16 3)) * (3 : Int32)))]) (st' := [.inr (.inr (.inl (17, 17)))]) (m' := (f, l)) rfl rfl (fl_bo rfl) rfl ?_
  refine fl_Tq.stp (pc' := 18) (lv' := [some (.inr (.inr (.inl (16, 16)))), some (.inl x), some (.inl y), some (.inl z), some (.inl ((c0_tplace_v f (f 16 3)) * (3 : Int32)))]) (st' := [.inl ((c0_tplace_v f (f 16 3)) * (3 : Int32)), .inr (.inr (.inl (17, 17)))]) (m' := (f, l)) rfl rfl (fl_bo rfl) rfl ?_
  refine fl_Tq.stp (pc' := 19) (lv' := [some (.inr (.inr (.inl (16, 16)))), some (.inl x), some (.inl y), some (.inl z), some (.inl ((c0_tplace_v f (f 16 3)) * (3 : Int32)))]) (st' := [.inl x, .inl ((c0_tplace_v f (f 16 3)) * (3 : Int32)), .inr (.inr (.inl (17, 17)))]) (m' := (f, l)) rfl rfl (fl_bo rfl) rfl ?_
  refine fl_Tq.svV (p := 17) (τ := 17) (n := 96) (z := (0, 0, 0)) (k := (c0_tplace_v f (f 16 3)).toInt.toNat * 3) (m' := (fl_row f 17 (upd (f 17) ((c0_tplace_v f (f 16 3)).toInt.toNat * 3) x), l)) rfl (fl_bo rfl) rfl (t2_im (have hb := (c0_tplace_b hl hl.2.2); t2_nn hb.1) (by decide +kernel) (by have hb := (c0_tplace_b hl hl.2.2); omega)) (by have hb := (c0_tplace_b hl hl.2.2); omega) (t2_upn rfl) ?_
  refine fl_Tq.stp (pc' := 21) (lv' := [some (.inr (.inr (.inl (16, 16)))), some (.inl x), some (.inl y), some (.inl z), some (.inl ((c0_tplace_v f (f 16 3)) * (3 : Int32)))]) (st' := [.inr (.inr (.inl (16, 16)))]) (m' := (fl_row f 17 (upd (f 17) ((c0_tplace_v f (f 16 3)).toInt.toNat * 3) x), l)) rfl rfl (fl_bo rfl) rfl ?_
  refine fl_Tq.stp (pc' := 24) (lv' := [some (.inr (.inr (.inl (16, 16)))), some (.inl x), some (.inl y), some (.inl z), some (.inl ((c0_tplace_v f (f 16 3)) * (3 : Int32)))]) (st' := [.inr (.inr (.inl (17, 17)))]) (m' := (fl_row f 17 (upd (f 17) ((c0_tplace_v f (f 16 3)).toInt.toNat * 3) x), l)) rfl rfl (fl_bo rfl) rfl ?_
  refine fl_Tq.stp (pc' := 26) (lv' := [some (.inr (.inr (.inl (16, 16)))), some (.inl x), some (.inl y), some (.inl z), some (.inl ((c0_tplace_v f (f 16 3)) * (3 : Int32)))]) (st' := [.inl ((c0_tplace_v f (f 16 3)) * (3 : Int32)), .inr (.inr (.inl (17, 17)))]) (m' := (fl_row f 17 (upd (f 17) ((c0_tplace_v f (f 16 3)).toInt.toNat * 3) x), l)) rfl rfl (fl_bo rfl) rfl ?_
  refine fl_Tq.cI (c := (1 : Int32)) rfl (by decide +kernel) (fl_bo rfl) ?_
  refine fl_Tq.stp (pc' := 28) (lv' := [some (.inr (.inr (.inl (16, 16)))), some (.inl x), some (.inl y), some (.inl z), some (.inl ((c0_tplace_v f (f 16 3)) * (3 : Int32)))]) (st' := [.inl (((c0_tplace_v f (f 16 3)) * (3 : Int32)) + (1 : Int32)), .inr (.inr (.inl (17, 17)))]) (m' := (fl_row f 17 (upd (f 17) ((c0_tplace_v f (f 16 3)).toInt.toNat * 3) x), l)) rfl rfl (fl_bo rfl) rfl ?_
  refine fl_Tq.stp (pc' := 29) (lv' := [some (.inr (.inr (.inl (16, 16)))), some (.inl x), some (.inl y), some (.inl z), some (.inl ((c0_tplace_v f (f 16 3)) * (3 : Int32)))]) (st' := [.inl y, .inl (((c0_tplace_v f (f 16 3)) * (3 : Int32)) + (1 : Int32)), .inr (.inr (.inl (17, 17)))]) (m' := (fl_row f 17 (upd (f 17) ((c0_tplace_v f (f 16 3)).toInt.toNat * 3) x), l)) rfl rfl (fl_bo rfl) rfl ?_
  refine fl_Tq.svV (p := 17) (τ := 17) (n := 96) (z := (0, 0, 0)) (k := (c0_tplace_v f (f 16 3)).toInt.toNat * 3 + 1) (m' := (fl_row f 17 (upd (upd (f 17) ((c0_tplace_v f (f 16 3)).toInt.toNat * 3) x) ((c0_tplace_v f (f 16 3)).toInt.toNat * 3 + 1) y), l)) rfl (fl_bo rfl) rfl (t2_ia (t2_im (have hb := (c0_tplace_b hl hl.2.2); t2_nn hb.1) (by decide +kernel) (by have hb := (c0_tplace_b hl hl.2.2); omega)) (by decide +kernel) (by have hb := (c0_tplace_b hl hl.2.2); omega)) (by have hb := (c0_tplace_b hl hl.2.2); omega) (t2_upr) ?_
  refine fl_Tq.stp (pc' := 31) (lv' := [some (.inr (.inr (.inl (16, 16)))), some (.inl x), some (.inl y), some (.inl z), some (.inl ((c0_tplace_v f (f 16 3)) * (3 : Int32)))]) (st' := [.inr (.inr (.inl (16, 16)))]) (m' := (fl_row f 17 (upd (upd (f 17) ((c0_tplace_v f (f 16 3)).toInt.toNat * 3) x) ((c0_tplace_v f (f 16 3)).toInt.toNat * 3 + 1) y), l)) rfl rfl (fl_bo rfl) rfl ?_
  refine fl_Tq.stp (pc' := 34) (lv' := [some (.inr (.inr (.inl (16, 16)))), some (.inl x), some (.inl y), some (.inl z), some (.inl ((c0_tplace_v f (f 16 3)) * (3 : Int32)))]) (st' := [.inr (.inr (.inl (17, 17)))]) (m' := (fl_row f 17 (upd (upd (f 17) ((c0_tplace_v f (f 16 3)).toInt.toNat * 3) x) ((c0_tplace_v f (f 16 3)).toInt.toNat * 3 + 1) y), l)) rfl rfl (fl_bo rfl) rfl ?_
  refine fl_Tq.stp (pc' := 36) (lv' := [some (.inr (.inr (.inl (16, 16)))), some (.inl x), some (.inl y), some (.inl z), some (.inl ((c0_tplace_v f (f 16 3)) * (3 : Int32)))]) (st' := [.inl ((c0_tplace_v f (f 16 3)) * (3 : Int32)), .inr (.inr (.inl (17, 17)))]) (m' := (fl_row f 17 (upd (upd (f 17) ((c0_tplace_v f (f 16 3)).toInt.toNat * 3) x) ((c0_tplace_v f (f 16 3)).toInt.toNat * 3 + 1) y), l)) rfl rfl (fl_bo rfl) rfl ?_
  refine fl_Tq.cI (c := (2 : Int32)) rfl (by decide +kernel) (fl_bo rfl) ?_
  refine fl_Tq.stp (pc' := 38) (lv' := [some (.inr (.inr (.inl (16, 16)))), some (.inl x), some (.inl y), some (.inl z), some (.inl ((c0_tplace_v f (f 16 3)) * (3 : Int32)))]) (st' := [.inl (((c0_tplace_v f (f 16 3)) * (3 : Int32)) + (2 : Int32)), .inr (.inr (.inl (17, 17)))]) (m' := (fl_row f 17 (upd (upd (f 17) ((c0_tplace_v f (f 16 3)).toInt.toNat * 3) x) ((c0_tplace_v f (f 16 3)).toInt.toNat * 3 + 1) y), l)) rfl rfl (fl_bo rfl) rfl ?_
  refine fl_Tq.stp (pc' := 39) (lv' := [some (.inr (.inr (.inl (16, 16)))), some (.inl x), some (.inl y), some (.inl z), some (.inl ((c0_tplace_v f (f 16 3)) * (3 : Int32)))]) (st' := [.inl z, .inl (((c0_tplace_v f (f 16 3)) * (3 : Int32)) + (2 : Int32)), .inr (.inr (.inl (17, 17)))]) (m' := (fl_row f 17 (upd (upd (f 17) ((c0_tplace_v f (f 16 3)).toInt.toNat * 3) x) ((c0_tplace_v f (f 16 3)).toInt.toNat * 3 + 1) y), l)) rfl rfl (fl_bo rfl) rfl ?_
  refine fl_Tq.svV (p := 17) (τ := 17) (n := 96) (z := (0, 0, 0)) (k := (c0_tplace_v f (f 16 3)).toInt.toNat * 3 + 2) (m' := (fl_row f 17 (upd (upd (upd (f 17) ((c0_tplace_v f (f 16 3)).toInt.toNat * 3) x) ((c0_tplace_v f (f 16 3)).toInt.toNat * 3 + 1) y) ((c0_tplace_v f (f 16 3)).toInt.toNat * 3 + 2) z), l)) rfl (fl_bo rfl) rfl (t2_ia (t2_im (have hb := (c0_tplace_b hl hl.2.2); t2_nn hb.1) (by decide +kernel) (by have hb := (c0_tplace_b hl hl.2.2); omega)) (by decide +kernel) (by have hb := (c0_tplace_b hl hl.2.2); omega)) (by have hb := (c0_tplace_b hl hl.2.2); omega) (t2_upr) ?_
  refine fl_Tq.stp (pc' := 41) (lv' := [some (.inr (.inr (.inl (16, 16)))), some (.inl x), some (.inl y), some (.inl z), some (.inl ((c0_tplace_v f (f 16 3)) * (3 : Int32)))]) (st' := [.inr (.inr (.inl (16, 16)))]) (m' := (fl_row f 17 (upd (upd (upd (f 17) ((c0_tplace_v f (f 16 3)).toInt.toNat * 3) x) ((c0_tplace_v f (f 16 3)).toInt.toNat * 3 + 1) y) ((c0_tplace_v f (f 16 3)).toInt.toNat * 3 + 2) z), l)) rfl rfl (fl_bo rfl) rfl ?_
  refine fl_Tq.gfV (k := 3) (v := f 16 3) rfl (fl_bo rfl) rfl (by simp only [fl_row_ne (by decide : 16 ≠ 17)]) ?_
  refine fl_Tq.stp (pc' := 45) (lv' := [some (.inr (.inr (.inl (16, 16)))), some (.inl x), some (.inl y), some (.inl z), some (.inl ((c0_tplace_v f (f 16 3)) * (3 : Int32)))]) (st' := [.inr (.inr (.inl (16, 16))), .inl (f 16 3)]) (m' := (fl_row f 17 (upd (upd (upd (f 17) ((c0_tplace_v f (f 16 3)).toInt.toNat * 3) x) ((c0_tplace_v f (f 16 3)).toInt.toNat * 3 + 1) y) ((c0_tplace_v f (f 16 3)).toInt.toNat * 3 + 2) z), l)) rfl rfl (fl_bo rfl) rfl ?_
  refine fl_Tq.gfV (k := 0) (v := f 16 0) rfl (fl_bo rfl) rfl (by simp only [fl_row_ne (by decide : 16 ≠ 17)]) ?_
  have hj60 : fl_Tq (pw_P L xs) 27 73 [some (.inr (.inr (.inl (16, 16)))), some (.inl x), some (.inl y), some (.inl z), some (.inl ((c0_tplace_v f (f 16 3)) * (3 : Int32)))] [] (fl_row (fl_row f 17 (upd (upd (upd (f 17) ((c0_tplace_v f (f 16 3)).toInt.toNat * 3) x) ((c0_tplace_v f (f 16 3)).toInt.toNat * 3 + 1) y) ((c0_tplace_v f (f 16 3)).toInt.toNat * 3 + 2) z)) 16 (upd (upd (f 16) 3 (c0_tadd_j48_0 f x y z)) 2 (c0_tadd_j48_1 f x y z)), l) Q → fl_Tq (pw_P L xs) 27 48 [some (.inr (.inr (.inl (16, 16)))), some (.inl x), some (.inl y), some (.inl z), some (.inl ((c0_tplace_v f (f 16 3)) * (3 : Int32)))] [.inl (f 16 0), .inl (f 16 3)] (fl_row f 17 (upd (upd (upd (f 17) ((c0_tplace_v f (f 16 3)).toInt.toNat * 3) x) ((c0_tplace_v f (f 16 3)).toInt.toNat * 3 + 1) y) ((c0_tplace_v f (f 16 3)).toInt.toNat * 3 + 2) z), l) Q := by
    intro hJ
    by_cases h1 : (f 16 3).toInt < (f 16 0).toInt
    · refine fl_Tq.jf rfl (fl_bo rfl) (c2_ge_f h1) rfl ?_
      refine fl_Tq.stp (pc' := 52) (lv' := [some (.inr (.inr (.inl (16, 16)))), some (.inl x), some (.inl y), some (.inl z), some (.inl ((c0_tplace_v f (f 16 3)) * (3 : Int32)))]) (st' := [.inr (.inr (.inl (16, 16)))]) (m' := (fl_row f 17 (upd (upd (upd (f 17) ((c0_tplace_v f (f 16 3)).toInt.toNat * 3) x) ((c0_tplace_v f (f 16 3)).toInt.toNat * 3 + 1) y) ((c0_tplace_v f (f 16 3)).toInt.toNat * 3 + 2) z), l)) rfl rfl (fl_bo rfl) rfl ?_
      refine fl_Tq.stp (pc' := 53) (lv' := [some (.inr (.inr (.inl (16, 16)))), some (.inl x), some (.inl y), some (.inl z), some (.inl ((c0_tplace_v f (f 16 3)) * (3 : Int32)))]) (st' := [.inr (.inr (.inl (16, 16))), .inr (.inr (.inl (16, 16)))]) (m' := (fl_row f 17 (upd (upd (upd (f 17) ((c0_tplace_v f (f 16 3)).toInt.toNat * 3) x) ((c0_tplace_v f (f 16 3)).toInt.toNat * 3 + 1) y) ((c0_tplace_v f (f 16 3)).toInt.toNat * 3 + 2) z), l)) rfl rfl (fl_bo rfl) rfl ?_
      refine fl_Tq.gfV (k := 3) (v := f 16 3) rfl (fl_bo rfl) rfl (by simp only [fl_row_ne (by decide : 16 ≠ 17)]) ?_
      refine fl_Tq.cI (c := (1 : Int32)) rfl (by decide +kernel) (fl_bo rfl) ?_
      refine fl_Tq.stp (pc' := 58) (lv' := [some (.inr (.inr (.inl (16, 16)))), some (.inl x), some (.inl y), some (.inl z), some (.inl ((c0_tplace_v f (f 16 3)) * (3 : Int32)))]) (st' := [.inl ((f 16 3) + (1 : Int32)), .inr (.inr (.inl (16, 16)))]) (m' := (fl_row f 17 (upd (upd (upd (f 17) ((c0_tplace_v f (f 16 3)).toInt.toNat * 3) x) ((c0_tplace_v f (f 16 3)).toInt.toNat * 3 + 1) y) ((c0_tplace_v f (f 16 3)).toInt.toNat * 3 + 2) z), l)) rfl rfl (fl_bo rfl) rfl ?_
      refine fl_Tq.pfV (k := 3) (m' := (fl_row (fl_row f 17 (upd (upd (upd (f 17) ((c0_tplace_v f (f 16 3)).toInt.toNat * 3) x) ((c0_tplace_v f (f 16 3)).toInt.toNat * 3 + 1) y) ((c0_tplace_v f (f 16 3)).toInt.toNat * 3 + 2) z)) 16 (upd (f 16) 3 ((f 16 3) + (1 : Int32))), l)) rfl (fl_bo rfl) rfl (t2_upn (by rw [fl_row_ne (by decide : 16 ≠ 17)])) ?_
      refine fl_Tq.stp (pc' := 73) (lv' := [some (.inr (.inr (.inl (16, 16)))), some (.inl x), some (.inl y), some (.inl z), some (.inl ((c0_tplace_v f (f 16 3)) * (3 : Int32)))]) (st' := []) (m' := (fl_row (fl_row f 17 (upd (upd (upd (f 17) ((c0_tplace_v f (f 16 3)).toInt.toNat * 3) x) ((c0_tplace_v f (f 16 3)).toInt.toNat * 3 + 1) y) ((c0_tplace_v f (f 16 3)).toInt.toNat * 3 + 2) z)) 16 (upd (f 16) 3 ((f 16 3) + (1 : Int32))), l)) rfl rfl (fl_bo rfl) rfl ?_
      have e0 : (fl_row (fl_row f 17 (upd (upd (upd (f 17) ((c0_tplace_v f (f 16 3)).toInt.toNat * 3) x) ((c0_tplace_v f (f 16 3)).toInt.toNat * 3 + 1) y) ((c0_tplace_v f (f 16 3)).toInt.toNat * 3 + 2) z)) 16 (upd (upd (f 16) 3 (c0_tadd_j48_0 f x y z)) 2 (c0_tadd_j48_1 f x y z))) = fl_row (fl_row f 17 (upd (upd (upd (f 17) ((c0_tplace_v f (f 16 3)).toInt.toNat * 3) x) ((c0_tplace_v f (f 16 3)).toInt.toNat * 3 + 1) y) ((c0_tplace_v f (f 16 3)).toInt.toNat * 3 + 2) z)) 16 (upd (f 16) 3 ((f 16 3) + (1 : Int32))) := by
        simp only [c0_tadd_j48_0, c0_tadd_j48_1, if_pos h1]
        funext q j
        simp only [fl_row, upd]
        repeat' split
        all_goals first | rfl | simp_all
      rw [e0] at hJ
      exact hJ
    · refine fl_Tq.jt rfl (fl_bo rfl) (c2_ge_t h1) rfl ?_
      refine fl_Tq.stp (pc' := 65) (lv' := [some (.inr (.inr (.inl (16, 16)))), some (.inl x), some (.inl y), some (.inl z), some (.inl ((c0_tplace_v f (f 16 3)) * (3 : Int32)))]) (st' := [.inr (.inr (.inl (16, 16)))]) (m' := (fl_row f 17 (upd (upd (upd (f 17) ((c0_tplace_v f (f 16 3)).toInt.toNat * 3) x) ((c0_tplace_v f (f 16 3)).toInt.toNat * 3 + 1) y) ((c0_tplace_v f (f 16 3)).toInt.toNat * 3 + 2) z), l)) rfl rfl (fl_bo rfl) rfl ?_
      refine fl_Tq.stp (pc' := 66) (lv' := [some (.inr (.inr (.inl (16, 16)))), some (.inl x), some (.inl y), some (.inl z), some (.inl ((c0_tplace_v f (f 16 3)) * (3 : Int32)))]) (st' := [.inr (.inr (.inl (16, 16))), .inr (.inr (.inl (16, 16)))]) (m' := (fl_row f 17 (upd (upd (upd (f 17) ((c0_tplace_v f (f 16 3)).toInt.toNat * 3) x) ((c0_tplace_v f (f 16 3)).toInt.toNat * 3 + 1) y) ((c0_tplace_v f (f 16 3)).toInt.toNat * 3 + 2) z), l)) rfl rfl (fl_bo rfl) rfl ?_
      refine fl_Tq.cI (c := (1 : Int32)) rfl (by decide +kernel) (fl_bo rfl) ?_
      refine fl_Tq.cal rfl rfl (fl_bo rfl) rfl ?_
      refine c0_tplace_q  ?_
      show fl_Tq _ 27 70 [some (.inr (.inr (.inl (16, 16)))), some (.inl x), some (.inl y), some (.inl z), some (.inl ((c0_tplace_v f (f 16 3)) * (3 : Int32)))] [.inl (c0_tplace_v (fl_row f 17 (upd (upd (upd (f 17) ((c0_tplace_v f (f 16 3)).toInt.toNat * 3) x) ((c0_tplace_v f (f 16 3)).toInt.toNat * 3 + 1) y) ((c0_tplace_v f (f 16 3)).toInt.toNat * 3 + 2) z)) (1 : Int32)), .inr (.inr (.inl (16, 16)))] (fl_row f 17 (upd (upd (upd (f 17) ((c0_tplace_v f (f 16 3)).toInt.toNat * 3) x) ((c0_tplace_v f (f 16 3)).toInt.toNat * 3 + 1) y) ((c0_tplace_v f (f 16 3)).toInt.toNat * 3 + 2) z), l) _
      refine fl_Tq.pfV (k := 2) (m' := (fl_row (fl_row f 17 (upd (upd (upd (f 17) ((c0_tplace_v f (f 16 3)).toInt.toNat * 3) x) ((c0_tplace_v f (f 16 3)).toInt.toNat * 3 + 1) y) ((c0_tplace_v f (f 16 3)).toInt.toNat * 3 + 2) z)) 16 (upd (f 16) 2 (c0_tplace_v (fl_row f 17 (upd (upd (upd (f 17) ((c0_tplace_v f (f 16 3)).toInt.toNat * 3) x) ((c0_tplace_v f (f 16 3)).toInt.toNat * 3 + 1) y) ((c0_tplace_v f (f 16 3)).toInt.toNat * 3 + 2) z)) (1 : Int32))), l)) rfl (fl_bo rfl) rfl (t2_upn (by rw [fl_row_ne (by decide : 16 ≠ 17)])) ?_
      have e0 : (fl_row (fl_row f 17 (upd (upd (upd (f 17) ((c0_tplace_v f (f 16 3)).toInt.toNat * 3) x) ((c0_tplace_v f (f 16 3)).toInt.toNat * 3 + 1) y) ((c0_tplace_v f (f 16 3)).toInt.toNat * 3 + 2) z)) 16 (upd (upd (f 16) 3 (c0_tadd_j48_0 f x y z)) 2 (c0_tadd_j48_1 f x y z))) = fl_row (fl_row f 17 (upd (upd (upd (f 17) ((c0_tplace_v f (f 16 3)).toInt.toNat * 3) x) ((c0_tplace_v f (f 16 3)).toInt.toNat * 3 + 1) y) ((c0_tplace_v f (f 16 3)).toInt.toNat * 3 + 2) z)) 16 (upd (f 16) 2 (c0_tplace_v (fl_row f 17 (upd (upd (upd (f 17) ((c0_tplace_v f (f 16 3)).toInt.toNat * 3) x) ((c0_tplace_v f (f 16 3)).toInt.toNat * 3 + 1) y) ((c0_tplace_v f (f 16 3)).toInt.toNat * 3 + 2) z)) (1 : Int32))) := by
        simp only [c0_tadd_j48_0, c0_tadd_j48_1, if_neg h1]
        funext q j
        simp only [fl_row, upd]
        repeat' split
        all_goals first | rfl | simp_all
      rw [e0] at hJ
      exact hJ
  refine hj60 ?_
  show fl_Tq _ 27 73 [some (.inr (.inr (.inl (16, 16)))), some (.inl x), some (.inl y), some (.inl z), some (.inl ((c0_tplace_v f (f 16 3)) * (3 : Int32)))] [] (fl_row (fl_row f 17 (upd (upd (upd (f 17) ((c0_tplace_v f (f 16 3)).toInt.toNat * 3) x) ((c0_tplace_v f (f 16 3)).toInt.toNat * 3 + 1) y) ((c0_tplace_v f (f 16 3)).toInt.toNat * 3 + 2) z)) 16 (upd (upd (f 16) 3 (c0_tadd_j48_0 f x y z)) 2 (c0_tadd_j48_1 f x y z)), l) _
  exact fl_Tq.ret rfl rfl rfl k

end

/-! 91.12.g7.lean.txt -/
section
noncomputable def r_goOld_g76_j112_0 (f : t2_F) (c : Int32) (C : Nat) (b : Int32) : Int32 := if (100 : Int32).toInt < (f 280 (444 + 61 * C + 0)).toInt then (f 280 (444 + 61 * C + 0)) - (1 : Int32) else f 280 (444 + 61 * C + 0)
noncomputable def r_goOld_g76 (f : t2_F) (c : Int32) (C : Nat) (b : Int32) : Option t2_F := if b.toInt = 0 then none else (if (f 280 (444 + 61 * C + 5)).toInt < b.toInt then none else some (r_hold_m (fl_row f 280 (upd (upd (f 280) (444 + 61 * C + 5) ((f 280 (444 + 61 * C + 5)) - b)) (444 + 61 * C + 0) (r_goOld_g76_j112_0 f c C b))) c C))
theorem r_goOld_g76_q {L : Nat} {xs : Nat → Int32} {f : t2_F} {l : t2_L} {Q : Option fl_V → fl_M → Prop} {c : Int32} {C : Nat} {b : Int32} (hc : c.toInt = (C : Int)) (hC : C < 16) (k0 : r_goOld_g76 f c C b = none → fl_Tq (pw_P L xs) 217 137 [some (.inr (.inr (.inl (76, 277)))), some (.inl c), some (.inl b)] [] (f, l) Q) (k1 : ∀ f' : t2_F, r_goOld_g76 f c C b = some f' → fl_Tq (pw_P L xs) 217 76 [some (.inr (.inr (.inl (76, 277)))), some (.inl c), some (.inl b)] [] (f', l) Q) : fl_Tq (pw_P L xs) 217 76 [some (.inr (.inr (.inl (76, 277)))), some (.inl c), some (.inl b)] [] (f, l) Q := by
  refine fl_Tq.stp (pc' := 77) (lv' := [some (.inr (.inr (.inl (76, 277)))), some (.inl c), some (.inl b)]) (st' := [.inl b]) (m' := (f, l)) rfl rfl (fl_bo rfl) rfl ?_
  by_cases h1 : b.toInt = 0
  · refine fl_Tq.zt rfl (fl_bo rfl) (c1_eq_t h1) rfl ?_
    have eg : r_goOld_g76 f c C b = none := by
      unfold r_goOld_g76
      simp only [if_pos h1]
    have hS := k0 eg
    exact hS
  · refine fl_Tq.zf rfl (fl_bo rfl) (c1_eq_f h1) rfl ?_
    refine fl_Tq.stp (pc' := 81) (lv' := [some (.inr (.inr (.inl (76, 277)))), some (.inl c), some (.inl b)]) (st' := [.inr (.inr (.inl (76, 277)))]) (m' := (f, l)) rfl rfl (fl_bo rfl) rfl ?_
    refine fl_Tq.stp (pc' := 82) (lv' := [some (.inr (.inr (.inl (76, 277)))), some (.inl c), some (.inl b)]) (st' := [.inl c, .inr (.inr (.inl (76, 277)))]) (m' := (f, l)) rfl rfl (fl_bo rfl) rfl ?_
    refine fl_Tq.cI (c := (5 : Int32)) rfl (by decide +kernel) (fl_bo rfl) ?_
    refine fl_Tq.cal rfl rfl (fl_bo rfl) rfl ?_
    refine t2_get (C := C) (W := 5) (v := f 280 (444 + 61 * C + 5)) hc (by decide +kernel) hC (by decide) rfl ?_
    show fl_Tq _ 217 86 [some (.inr (.inr (.inl (76, 277)))), some (.inl c), some (.inl b)] [.inl (f 280 (444 + 61 * C + 5))] (f, l) _
    refine fl_Tq.stp (pc' := 87) (lv' := [some (.inr (.inr (.inl (76, 277)))), some (.inl c), some (.inl b)]) (st' := [.inl b, .inl (f 280 (444 + 61 * C + 5))]) (m' := (f, l)) rfl rfl (fl_bo rfl) rfl ?_
    by_cases h2 : (f 280 (444 + 61 * C + 5)).toInt < b.toInt
    · refine fl_Tq.jt rfl (fl_bo rfl) (c2_lt_t h2) rfl ?_
      have eg : r_goOld_g76 f c C b = none := by
        unfold r_goOld_g76
        simp only [if_neg h1, if_pos h2]
      have hS := k0 eg
      exact hS
    · refine fl_Tq.jf rfl (fl_bo rfl) (c2_lt_f h2) rfl ?_
      refine fl_Tq.stp (pc' := 91) (lv' := [some (.inr (.inr (.inl (76, 277)))), some (.inl c), some (.inl b)]) (st' := [.inr (.inr (.inl (76, 277)))]) (m' := (f, l)) rfl rfl (fl_bo rfl) rfl ?_
      refine fl_Tq.stp (pc' := 92) (lv' := [some (.inr (.inr (.inl (76, 277)))), some (.inl c), some (.inl b)]) (st' := [.inl c, .inr (.inr (.inl (76, 277)))]) (m' := (f, l)) rfl rfl (fl_bo rfl) rfl ?_
      refine fl_Tq.cI (c := (5 : Int32)) rfl (by decide +kernel) (fl_bo rfl) ?_
      refine fl_Tq.stp (pc' := 94) (lv' := [some (.inr (.inr (.inl (76, 277)))), some (.inl c), some (.inl b)]) (st' := [.inr (.inr (.inl (76, 277))), .inl (5 : Int32), .inl c, .inr (.inr (.inl (76, 277)))]) (m' := (f, l)) rfl rfl (fl_bo rfl) rfl ?_
      refine fl_Tq.stp (pc' := 95) (lv' := [some (.inr (.inr (.inl (76, 277)))), some (.inl c), some (.inl b)]) (st' := [.inl c, .inr (.inr (.inl (76, 277))), .inl (5 : Int32), .inl c, .inr (.inr (.inl (76, 277)))]) (m' := (f, l)) rfl rfl (fl_bo rfl) rfl ?_
      refine fl_Tq.cI (c := (5 : Int32)) rfl (by decide +kernel) (fl_bo rfl) ?_
      refine fl_Tq.cal rfl rfl (fl_bo rfl) rfl ?_
      refine t2_get (C := C) (W := 5) (v := f 280 (444 + 61 * C + 5)) hc (by decide +kernel) hC (by decide) rfl ?_
      show fl_Tq _ 217 99 [some (.inr (.inr (.inl (76, 277)))), some (.inl c), some (.inl b)] [.inl (f 280 (444 + 61 * C + 5)), .inl (5 : Int32), .inl c, .inr (.inr (.inl (76, 277)))] (f, l) _
      refine fl_Tq.stp (pc' := 100) (lv' := [some (.inr (.inr (.inl (76, 277)))), some (.inl c), some (.inl b)]) (st' := [.inl b, .inl (f 280 (444 + 61 * C + 5)), .inl (5 : Int32), .inl c, .inr (.inr (.inl (76, 277)))]) (m' := (f, l)) rfl rfl (fl_bo rfl) rfl ?_
      refine fl_Tq.stp (pc' := 101) (lv' := [some (.inr (.inr (.inl (76, 277)))), some (.inl c), some (.inl b)]) (st' := [.inl ((f 280 (444 + 61 * C + 5)) - b), .inl (5 : Int32), .inl c, .inr (.inr (.inl (76, 277)))]) (m' := (f, l)) rfl rfl (fl_bo rfl) rfl ?_
      refine fl_Tq.cal rfl rfl (fl_bo rfl) rfl ?_
      refine t2_let (C := C) (W := 5) (m' := (fl_row f 280 (upd (f 280) (444 + 61 * C + 5) ((f 280 (444 + 61 * C + 5)) - b)), l)) hc (by decide +kernel) hC (by decide) (t2_upn rfl) ?_
      show fl_Tq _ 217 104 [some (.inr (.inr (.inl (76, 277)))), some (.inl c), some (.inl b)] [] (fl_row f 280 (upd (f 280) (444 + 61 * C + 5) ((f 280 (444 + 61 * C + 5)) - b)), l) _
      refine fl_Tq.stp (pc' := 105) (lv' := [some (.inr (.inr (.inl (76, 277)))), some (.inl c), some (.inl b)]) (st' := [.inr (.inr (.inl (76, 277)))]) (m' := (fl_row f 280 (upd (f 280) (444 + 61 * C + 5) ((f 280 (444 + 61 * C + 5)) - b)), l)) rfl rfl (fl_bo rfl) rfl ?_
      refine fl_Tq.stp (pc' := 106) (lv' := [some (.inr (.inr (.inl (76, 277)))), some (.inl c), some (.inl b)]) (st' := [.inl c, .inr (.inr (.inl (76, 277)))]) (m' := (fl_row f 280 (upd (f 280) (444 + 61 * C + 5) ((f 280 (444 + 61 * C + 5)) - b)), l)) rfl rfl (fl_bo rfl) rfl ?_
      refine fl_Tq.cI (c := (0 : Int32)) rfl (by decide +kernel) (fl_bo rfl) ?_
      refine fl_Tq.cal rfl rfl (fl_bo rfl) rfl ?_
      refine t2_get (C := C) (W := 0) (v := f 280 (444 + 61 * C + 0)) hc (by decide +kernel) hC (by decide) (by simp only [fl_row_self, upd_ne (by omega : 444 + 61 * C + 0 ≠ 444 + 61 * C + 5)]) ?_
      show fl_Tq _ 217 110 [some (.inr (.inr (.inl (76, 277)))), some (.inl c), some (.inl b)] [.inl (f 280 (444 + 61 * C + 0))] (fl_row f 280 (upd (f 280) (444 + 61 * C + 5) ((f 280 (444 + 61 * C + 5)) - b)), l) _
      refine fl_Tq.cB (c := (100 : Int32)) rfl (by decide +kernel) (fl_bo rfl) ?_
      have hj56 : fl_Tq (pw_P L xs) 217 129 [some (.inr (.inr (.inl (76, 277)))), some (.inl c), some (.inl b)] [] (fl_row f 280 (upd (upd (f 280) (444 + 61 * C + 5) ((f 280 (444 + 61 * C + 5)) - b)) (444 + 61 * C + 0) (r_goOld_g76_j112_0 f c C b)), l) Q → fl_Tq (pw_P L xs) 217 112 [some (.inr (.inr (.inl (76, 277)))), some (.inl c), some (.inl b)] [.inl (100 : Int32), .inl (f 280 (444 + 61 * C + 0))] (fl_row f 280 (upd (f 280) (444 + 61 * C + 5) ((f 280 (444 + 61 * C + 5)) - b)), l) Q := by
        intro hJ
        by_cases h3 : (100 : Int32).toInt < (f 280 (444 + 61 * C + 0)).toInt
        · refine fl_Tq.jf rfl (fl_bo rfl) (c2_le_f h3) rfl ?_
          refine fl_Tq.stp (pc' := 116) (lv' := [some (.inr (.inr (.inl (76, 277)))), some (.inl c), some (.inl b)]) (st' := [.inr (.inr (.inl (76, 277)))]) (m' := (fl_row f 280 (upd (f 280) (444 + 61 * C + 5) ((f 280 (444 + 61 * C + 5)) - b)), l)) rfl rfl (fl_bo rfl) rfl ?_
          refine fl_Tq.stp (pc' := 117) (lv' := [some (.inr (.inr (.inl (76, 277)))), some (.inl c), some (.inl b)]) (st' := [.inl c, .inr (.inr (.inl (76, 277)))]) (m' := (fl_row f 280 (upd (f 280) (444 + 61 * C + 5) ((f 280 (444 + 61 * C + 5)) - b)), l)) rfl rfl (fl_bo rfl) rfl ?_
          refine fl_Tq.cI (c := (0 : Int32)) rfl (by decide +kernel) (fl_bo rfl) ?_
          refine fl_Tq.stp (pc' := 119) (lv' := [some (.inr (.inr (.inl (76, 277)))), some (.inl c), some (.inl b)]) (st' := [.inr (.inr (.inl (76, 277))), .inl (0 : Int32), .inl c, .inr (.inr (.inl (76, 277)))]) (m' := (fl_row f 280 (upd (f 280) (444 + 61 * C + 5) ((f 280 (444 + 61 * C + 5)) - b)), l)) rfl rfl (fl_bo rfl) rfl ?_
          refine fl_Tq.stp (pc' := 120) (lv' := [some (.inr (.inr (.inl (76, 277)))), some (.inl c), some (.inl b)]) (st' := [.inl c, .inr (.inr (.inl (76, 277))), .inl (0 : Int32), .inl c, .inr (.inr (.inl (76, 277)))]) (m' := (fl_row f 280 (upd (f 280) (444 + 61 * C + 5) ((f 280 (444 + 61 * C + 5)) - b)), l)) rfl rfl (fl_bo rfl) rfl ?_
          refine fl_Tq.cI (c := (0 : Int32)) rfl (by decide +kernel) (fl_bo rfl) ?_
          refine fl_Tq.cal rfl rfl (fl_bo rfl) rfl ?_
          refine t2_get (C := C) (W := 0) (v := f 280 (444 + 61 * C + 0)) hc (by decide +kernel) hC (by decide) (by simp only [fl_row_self, upd_ne (by omega : 444 + 61 * C + 0 ≠ 444 + 61 * C + 5)]) ?_
          show fl_Tq _ 217 124 [some (.inr (.inr (.inl (76, 277)))), some (.inl c), some (.inl b)] [.inl (f 280 (444 + 61 * C + 0)), .inl (0 : Int32), .inl c, .inr (.inr (.inl (76, 277)))] (fl_row f 280 (upd (f 280) (444 + 61 * C + 5) ((f 280 (444 + 61 * C + 5)) - b)), l) _
          refine fl_Tq.cI (c := (1 : Int32)) rfl (by decide +kernel) (fl_bo rfl) ?_
          refine fl_Tq.stp (pc' := 126) (lv' := [some (.inr (.inr (.inl (76, 277)))), some (.inl c), some (.inl b)]) (st' := [.inl ((f 280 (444 + 61 * C + 0)) - (1 : Int32)), .inl (0 : Int32), .inl c, .inr (.inr (.inl (76, 277)))]) (m' := (fl_row f 280 (upd (f 280) (444 + 61 * C + 5) ((f 280 (444 + 61 * C + 5)) - b)), l)) rfl rfl (fl_bo rfl) rfl ?_
          refine fl_Tq.cal rfl rfl (fl_bo rfl) rfl ?_
          refine t2_let (C := C) (W := 0) (m' := (fl_row f 280 (upd (upd (f 280) (444 + 61 * C + 5) ((f 280 (444 + 61 * C + 5)) - b)) (444 + 61 * C + 0) ((f 280 (444 + 61 * C + 0)) - (1 : Int32))), l)) hc (by decide +kernel) hC (by decide) (t2_upr) ?_
          show fl_Tq _ 217 129 [some (.inr (.inr (.inl (76, 277)))), some (.inl c), some (.inl b)] [] (fl_row f 280 (upd (upd (f 280) (444 + 61 * C + 5) ((f 280 (444 + 61 * C + 5)) - b)) (444 + 61 * C + 0) ((f 280 (444 + 61 * C + 0)) - (1 : Int32))), l) _
          have e0 : (fl_row f 280 (upd (upd (f 280) (444 + 61 * C + 5) ((f 280 (444 + 61 * C + 5)) - b)) (444 + 61 * C + 0) (r_goOld_g76_j112_0 f c C b))) = fl_row f 280 (upd (upd (f 280) (444 + 61 * C + 5) ((f 280 (444 + 61 * C + 5)) - b)) (444 + 61 * C + 0) ((f 280 (444 + 61 * C + 0)) - (1 : Int32))) := by
            simp only [r_goOld_g76_j112_0, if_pos h3]
          rw [e0] at hJ
          exact hJ
        · refine fl_Tq.jt rfl (fl_bo rfl) (c2_le_t h3) rfl ?_
          have e0 : (fl_row f 280 (upd (upd (f 280) (444 + 61 * C + 5) ((f 280 (444 + 61 * C + 5)) - b)) (444 + 61 * C + 0) (r_goOld_g76_j112_0 f c C b))) = fl_row f 280 (upd (f 280) (444 + 61 * C + 5) ((f 280 (444 + 61 * C + 5)) - b)) := by
            simp only [r_goOld_g76_j112_0, if_neg h3]
            funext q j
            simp only [fl_row, upd]
            repeat' split
            all_goals first | rfl | simp_all
          rw [e0] at hJ
          exact hJ
      refine hj56 ?_
      show fl_Tq _ 217 129 [some (.inr (.inr (.inl (76, 277)))), some (.inl c), some (.inl b)] [] (fl_row f 280 (upd (upd (f 280) (444 + 61 * C + 5) ((f 280 (444 + 61 * C + 5)) - b)) (444 + 61 * C + 0) (r_goOld_g76_j112_0 f c C b)), l) _
      refine fl_Tq.stp (pc' := 130) (lv' := [some (.inr (.inr (.inl (76, 277)))), some (.inl c), some (.inl b)]) (st' := [.inr (.inr (.inl (76, 277)))]) (m' := (fl_row f 280 (upd (upd (f 280) (444 + 61 * C + 5) ((f 280 (444 + 61 * C + 5)) - b)) (444 + 61 * C + 0) (r_goOld_g76_j112_0 f c C b)), l)) rfl rfl (fl_bo rfl) rfl ?_
      refine fl_Tq.stp (pc' := 131) (lv' := [some (.inr (.inr (.inl (76, 277)))), some (.inl c), some (.inl b)]) (st' := [.inl c, .inr (.inr (.inl (76, 277)))]) (m' := (fl_row f 280 (upd (upd (f 280) (444 + 61 * C + 5) ((f 280 (444 + 61 * C + 5)) - b)) (444 + 61 * C + 0) (r_goOld_g76_j112_0 f c C b)), l)) rfl rfl (fl_bo rfl) rfl ?_
      refine fl_Tq.cal rfl rfl (fl_bo rfl) rfl ?_
      refine r_hold_q hc hC ?_
      show fl_Tq _ 217 134 [some (.inr (.inr (.inl (76, 277)))), some (.inl c), some (.inl b)] [] (r_hold_m (fl_row f 280 (upd (upd (f 280) (444 + 61 * C + 5) ((f 280 (444 + 61 * C + 5)) - b)) (444 + 61 * C + 0) (r_goOld_g76_j112_0 f c C b))) c C, l) _
      refine fl_Tq.stp (pc' := 76) (lv' := [some (.inr (.inr (.inl (76, 277)))), some (.inl c), some (.inl b)]) (st' := []) (m' := (r_hold_m (fl_row f 280 (upd (upd (f 280) (444 + 61 * C + 5) ((f 280 (444 + 61 * C + 5)) - b)) (444 + 61 * C + 0) (r_goOld_g76_j112_0 f c C b))) c C, l)) rfl rfl (fl_bo rfl) rfl ?_
      have eg : r_goOld_g76 f c C b = some (r_hold_m (fl_row f 280 (upd (upd (f 280) (444 + 61 * C + 5) ((f 280 (444 + 61 * C + 5)) - b)) (444 + 61 * C + 0) (r_goOld_g76_j112_0 f c C b))) c C) := by
        unfold r_goOld_g76
        simp only [if_neg h1, if_neg h2]
      have hS := k1 _ eg
      exact hS
theorem r_goOld_dec {f f' : t2_F} {c : Int32} {C : Nat} {b : Int32} (hb : 0 ≤ b.toInt) (e : r_goOld_g76 f c C b = some f') : (f' 280 (444 + 61 * C + 5)).toInt.toNat < (f 280 (444 + 61 * C + 5)).toInt.toNat := by
  have hx := at_i32 (f 280 (444 + 61 * C + 5))
  unfold r_goOld_g76 at e
  split at e
  · cases e
  · rename_i h1
    split at e
    · cases e
    · rename_i h2
      have e5 : f' 280 (444 + 61 * C + 5) = f 280 (444 + 61 * C + 5) - b := by
        cases e
        simp only [r_hold_w (show 444 + 61 * C + 5 ≠ 444 + 61 * C + 1 by omega) (show 444 + 61 * C + 5 ≠ 444 + 61 * C + 4 by omega), fl_row_self, upd_ne (show 444 + 61 * C + 5 ≠ 444 + 61 * C + 0 by omega), upd_self]
      rw [e5, at_sub32 (by omega) (by omega)]
      omega
theorem r_goOld_ww {c : Int32} {C : Nat} {b : Int32} {n w : Nat} {f : t2_F} (e0 : w ≠ 444 + 61 * C + 0) (e1 : w ≠ 444 + 61 * C + 1) (e2 : w ≠ 444 + 61 * C + 4) (e3 : w ≠ 444 + 61 * C + 5) : t2_wf (fun f => r_goOld_g76 f c C b) n f 280 w = f 280 w := by
  refine t2_wf_k (fun f f' e => ?_) n f
  unfold r_goOld_g76 at e
  split at e
  · cases e
  · split at e
    · cases e
    · cases e
      simp only [r_hold_w e1 e2, fl_row_self, upd_ne e0, upd_ne e3]
theorem r_goOld_wfr {c : Int32} {C : Nat} {b : Int32} {n p : Nat} {f : t2_F} (e280 : p ≠ 280) : t2_wf (fun f => r_goOld_g76 f c C b) n f p = f p := by
  refine t2_wf_p (fun f f' e => ?_) n f
  unfold r_goOld_g76 at e
  split at e
  · cases e
  · split at e
    · cases e
    · cases e
      simp only [r_hold_fr e280, fl_row_ne e280]
noncomputable def r_goOld_m (f : t2_F) (c : Int32) (C : Nat) : t2_F := r_hold_m (fl_row (t2_wf (fun f' => r_goOld_g76 f' c C ((3600 : Int32) * (f 280 58))) 2147483647 (fl_row f 280 (upd (upd (f 280) (444 + 61 * C + 9) ((f 280 (444 + 61 * C + 9)) + (((((f 280 5) * (f 280 59)) / (1000 : Int32)) - (f 280 (444 + 61 * C + 9))) / (8 : Int32)))) (444 + 61 * C + 5) ((f 280 (444 + 61 * C + 5)) + (r_size_v (f 280 5)))))) 280 (upd ((t2_wf (fun f' => r_goOld_g76 f' c C ((3600 : Int32) * (f 280 58))) 2147483647 (fl_row f 280 (upd (upd (f 280) (444 + 61 * C + 9) ((f 280 (444 + 61 * C + 9)) + (((((f 280 5) * (f 280 59)) / (1000 : Int32)) - (f 280 (444 + 61 * C + 9))) / (8 : Int32)))) (444 + 61 * C + 5) ((f 280 (444 + 61 * C + 5)) + (r_size_v (f 280 5)))))) 280) (444 + 61 * C + 4) ((((t2_wf (fun f' => r_goOld_g76 f' c C ((3600 : Int32) * (f 280 58))) 2147483647 (fl_row f 280 (upd (upd (f 280) (444 + 61 * C + 9) ((f 280 (444 + 61 * C + 9)) + (((((f 280 5) * (f 280 59)) / (1000 : Int32)) - (f 280 (444 + 61 * C + 9))) / (8 : Int32)))) (444 + 61 * C + 5) ((f 280 (444 + 61 * C + 5)) + (r_size_v (f 280 5)))))) 280 (444 + 61 * C + 4)) + (f 280 5)) + (f 280 52)))) c C
theorem r_goOld_fr {f : t2_F} {c : Int32} {C : Nat} {p : Nat}  (e280 : p ≠ 280) : r_goOld_m f c C p = f p := by
  unfold r_goOld_m
  repeat' split
  all_goals first | rfl | simp only [fl_row_ne e280, r_hold_fr e280, r_goOld_wfr e280]
theorem r_goOld_w {f : t2_F} {c : Int32} {C : Nat} {w : Nat} (e0 : w ≠ 444 + 61 * C + 1) (e1 : w ≠ 444 + 61 * C + 4) (e2 : w ≠ 444 + 61 * C + 0) (e3 : w ≠ 444 + 61 * C + 5) (e4 : w ≠ 444 + 61 * C + 9) : r_goOld_m f c C 280 w = f 280 w := by
  unfold r_goOld_m
  repeat' split
  all_goals first | rfl | simp only [fl_row_self, upd_ne e0, upd_ne e1, upd_ne e2, upd_ne e3, upd_ne e4, r_hold_w e0 e1, r_goOld_ww e2 e0 e1 e3]
theorem r_goOld_q {L : Nat} {xs : Nat → Int32} {f : t2_F} {l : t2_L} {Q : Option fl_V → fl_M → Prop} {c : Int32} {C : Nat} (hc : c.toInt = (C : Int)) (hC : C < 16) (hb : 0 ≤ ((3600 : Int32) * (f 280 58)).toInt) (k : Q none (r_goOld_m f c C, l)) : fl_Tq (pw_P L xs) 217 0 (fl_args (am_mxl (pw_P L xs) 217) [.inr (.inr (.inl (76, 277))), .inl c]) [] (f, l) Q := by
  refine fl_Tq.stp (pc' := 1) (lv' := [some (.inr (.inr (.inl (76, 277)))), some (.inl c), none]) (st' := [.inr (.inr (.inl (76, 277)))]) (m' := (f, l)) rfl rfl (fl_bo rfl) rfl ?_
  refine fl_Tq.stp (pc' := 2) (lv' := [some (.inr (.inr (.inl (76, 277)))), some (.inl c), none]) (st' := [.inl c, .inr (.inr (.inl (76, 277)))]) (m' := (f, l)) rfl rfl (fl_bo rfl) rfl ?_
  refine fl_Tq.cB (c := (9 : Int32)) rfl (by decide +kernel) (fl_bo rfl) ?_
  refine fl_Tq.stp (pc' := 5) (lv' := [some (.inr (.inr (.inl (76, 277)))), some (.inl c), none]) (st' := [.inr (.inr (.inl (76, 277))), .inl (9 : Int32), .inl c, .inr (.inr (.inl (76, 277)))]) (m' := (f, l)) rfl rfl (fl_bo rfl) rfl ?_
  refine fl_Tq.stp (pc' := 6) (lv' := [some (.inr (.inr (.inl (76, 277)))), some (.inl c), none]) (st' := [.inl c, .inr (.inr (.inl (76, 277))), .inl (9 : Int32), .inl c, .inr (.inr (.inl (76, 277)))]) (m' := (f, l)) rfl rfl (fl_bo rfl) rfl ?_
  refine fl_Tq.cB (c := (9 : Int32)) rfl (by decide +kernel) (fl_bo rfl) ?_
  refine fl_Tq.cal rfl rfl (fl_bo rfl) rfl ?_
  refine t2_get (C := C) (W := 9) (v := f 280 (444 + 61 * C + 9)) hc (by decide +kernel) hC (by decide) rfl ?_
  show fl_Tq _ 217 11 [some (.inr (.inr (.inl (76, 277)))), some (.inl c), none] [.inl (f 280 (444 + 61 * C + 9)), .inl (9 : Int32), .inl c, .inr (.inr (.inl (76, 277)))] (f, l) _
  refine fl_Tq.stp (pc' := 12) (lv' := [some (.inr (.inr (.inl (76, 277)))), some (.inl c), none]) (st' := [.inr (.inr (.inl (76, 277))), .inl (f 280 (444 + 61 * C + 9)), .inl (9 : Int32), .inl c, .inr (.inr (.inl (76, 277)))]) (m' := (f, l)) rfl rfl (fl_bo rfl) rfl ?_
  refine fl_Tq.stp (pc' := 15) (lv' := [some (.inr (.inr (.inl (76, 277)))), some (.inl c), none]) (st' := [.inr (.inr (.inl (79, 280))), .inl (f 280 (444 + 61 * C + 9)), .inl (9 : Int32), .inl c, .inr (.inr (.inl (76, 277)))]) (m' := (f, l)) rfl rfl (fl_bo rfl) rfl ?_
  refine fl_Tq.cI (c := (5 : Int32)) rfl (by decide +kernel) (fl_bo rfl) ?_
  refine fl_Tq.ldV (p := 280) (τ := 79) (n := 29780) (z := (0, 0, 0)) (k := 5) (v := f 280 5) rfl (fl_bo rfl) rfl (by decide +kernel) (by decide) rfl ?_
  refine fl_Tq.stp (pc' := 18) (lv' := [some (.inr (.inr (.inl (76, 277)))), some (.inl c), none]) (st' := [.inr (.inr (.inl (76, 277))), .inl (f 280 5), .inl (f 280 (444 + 61 * C + 9)), .inl (9 : Int32), .inl c, .inr (.inr (.inl (76, 277)))]) (m' := (f, l)) rfl rfl (fl_bo rfl) rfl ?_
  refine fl_Tq.cB (c := (25 : Int32)) rfl (by decide +kernel) (fl_bo rfl) ?_
  refine fl_Tq.cal rfl rfl (fl_bo rfl) rfl ?_
  refine t2_its (W := 25) (v := f 280 59) (by decide +kernel) (by decide) rfl ?_
  show fl_Tq _ 217 23 [some (.inr (.inr (.inl (76, 277)))), some (.inl c), none] [.inl (f 280 59), .inl (f 280 5), .inl (f 280 (444 + 61 * C + 9)), .inl (9 : Int32), .inl c, .inr (.inr (.inl (76, 277)))] (f, l) _
  refine fl_Tq.stp (pc' := 24) (lv' := [some (.inr (.inr (.inl (76, 277)))), some (.inl c), none]) (st' := [.inl ((f 280 5) * (f 280 59)), .inl (f 280 (444 + 61 * C + 9)), .inl (9 : Int32), .inl c, .inr (.inr (.inl (76, 277)))]) (m' := (f, l)) rfl rfl (fl_bo rfl) rfl ?_
  refine fl_Tq.cS (c := (1000 : Int32)) rfl (by decide +kernel) (fl_bo rfl) ?_
  refine fl_Tq.dv rfl (fl_bo rfl) (by decide +kernel) ?_
  refine fl_Tq.stp (pc' := 29) (lv' := [some (.inr (.inr (.inl (76, 277)))), some (.inl c), none]) (st' := [.inr (.inr (.inl (76, 277))), .inl (((f 280 5) * (f 280 59)) / (1000 : Int32)), .inl (f 280 (444 + 61 * C + 9)), .inl (9 : Int32), .inl c, .inr (.inr (.inl (76, 277)))]) (m' := (f, l)) rfl rfl (fl_bo rfl) rfl ?_
  refine fl_Tq.stp (pc' := 30) (lv' := [some (.inr (.inr (.inl (76, 277)))), some (.inl c), none]) (st' := [.inl c, .inr (.inr (.inl (76, 277))), .inl (((f 280 5) * (f 280 59)) / (1000 : Int32)), .inl (f 280 (444 + 61 * C + 9)), .inl (9 : Int32), .inl c, .inr (.inr (.inl (76, 277)))]) (m' := (f, l)) rfl rfl (fl_bo rfl) rfl ?_
  refine fl_Tq.cB (c := (9 : Int32)) rfl (by decide +kernel) (fl_bo rfl) ?_
  refine fl_Tq.cal rfl rfl (fl_bo rfl) rfl ?_
  refine t2_get (C := C) (W := 9) (v := f 280 (444 + 61 * C + 9)) hc (by decide +kernel) hC (by decide) rfl ?_
  show fl_Tq _ 217 35 [some (.inr (.inr (.inl (76, 277)))), some (.inl c), none] [.inl (f 280 (444 + 61 * C + 9)), .inl (((f 280 5) * (f 280 59)) / (1000 : Int32)), .inl (f 280 (444 + 61 * C + 9)), .inl (9 : Int32), .inl c, .inr (.inr (.inl (76, 277)))] (f, l) _
  refine fl_Tq.stp (pc' := 36) (lv' := [some (.inr (.inr (.inl (76, 277)))), some (.inl c), none]) (st' := [.inl ((((f 280 5) * (f 280 59)) / (1000 : Int32)) - (f 280 (444 + 61 * C + 9))), .inl (f 280 (444 + 61 * C + 9)), .inl (9 : Int32), .inl c, .inr (.inr (.inl (76, 277)))]) (m' := (f, l)) rfl rfl (fl_bo rfl) rfl ?_
  refine fl_Tq.cB (c := (8 : Int32)) rfl (by decide +kernel) (fl_bo rfl) ?_
  refine fl_Tq.dv rfl (fl_bo rfl) (by decide +kernel) ?_
  refine fl_Tq.stp (pc' := 40) (lv' := [some (.inr (.inr (.inl (76, 277)))), some (.inl c), none]) (st' := [.inl ((f 280 (444 + 61 * C + 9)) + (((((f 280 5) * (f 280 59)) / (1000 : Int32)) - (f 280 (444 + 61 * C + 9))) / (8 : Int32))), .inl (9 : Int32), .inl c, .inr (.inr (.inl (76, 277)))]) (m' := (f, l)) rfl rfl (fl_bo rfl) rfl ?_
  refine fl_Tq.cal rfl rfl (fl_bo rfl) rfl ?_
  refine t2_let (C := C) (W := 9) (m' := (fl_row f 280 (upd (f 280) (444 + 61 * C + 9) ((f 280 (444 + 61 * C + 9)) + (((((f 280 5) * (f 280 59)) / (1000 : Int32)) - (f 280 (444 + 61 * C + 9))) / (8 : Int32)))), l)) hc (by decide +kernel) hC (by decide) (t2_upn rfl) ?_
  show fl_Tq _ 217 43 [some (.inr (.inr (.inl (76, 277)))), some (.inl c), none] [] (fl_row f 280 (upd (f 280) (444 + 61 * C + 9) ((f 280 (444 + 61 * C + 9)) + (((((f 280 5) * (f 280 59)) / (1000 : Int32)) - (f 280 (444 + 61 * C + 9))) / (8 : Int32)))), l) _
  refine fl_Tq.stp (pc' := 44) (lv' := [some (.inr (.inr (.inl (76, 277)))), some (.inl c), none]) (st' := [.inr (.inr (.inl (76, 277)))]) (m' := (fl_row f 280 (upd (f 280) (444 + 61 * C + 9) ((f 280 (444 + 61 * C + 9)) + (((((f 280 5) * (f 280 59)) / (1000 : Int32)) - (f 280 (444 + 61 * C + 9))) / (8 : Int32)))), l)) rfl rfl (fl_bo rfl) rfl ?_
  refine fl_Tq.stp (pc' := 45) (lv' := [some (.inr (.inr (.inl (76, 277)))), some (.inl c), none]) (st' := [.inl c, .inr (.inr (.inl (76, 277)))]) (m' := (fl_row f 280 (upd (f 280) (444 + 61 * C + 9) ((f 280 (444 + 61 * C + 9)) + (((((f 280 5) * (f 280 59)) / (1000 : Int32)) - (f 280 (444 + 61 * C + 9))) / (8 : Int32)))), l)) rfl rfl (fl_bo rfl) rfl ?_
  refine fl_Tq.cI (c := (5 : Int32)) rfl (by decide +kernel) (fl_bo rfl) ?_
  refine fl_Tq.stp (pc' := 47) (lv' := [some (.inr (.inr (.inl (76, 277)))), some (.inl c), none]) (st' := [.inr (.inr (.inl (76, 277))), .inl (5 : Int32), .inl c, .inr (.inr (.inl (76, 277)))]) (m' := (fl_row f 280 (upd (f 280) (444 + 61 * C + 9) ((f 280 (444 + 61 * C + 9)) + (((((f 280 5) * (f 280 59)) / (1000 : Int32)) - (f 280 (444 + 61 * C + 9))) / (8 : Int32)))), l)) rfl rfl (fl_bo rfl) rfl ?_
  refine fl_Tq.stp (pc' := 48) (lv' := [some (.inr (.inr (.inl (76, 277)))), some (.inl c), none]) (st' := [.inl c, .inr (.inr (.inl (76, 277))), .inl (5 : Int32), .inl c, .inr (.inr (.inl (76, 277)))]) (m' := (fl_row f 280 (upd (f 280) (444 + 61 * C + 9) ((f 280 (444 + 61 * C + 9)) + (((((f 280 5) * (f 280 59)) / (1000 : Int32)) - (f 280 (444 + 61 * C + 9))) / (8 : Int32)))), l)) rfl rfl (fl_bo rfl) rfl ?_
  refine fl_Tq.cI (c := (5 : Int32)) rfl (by decide +kernel) (fl_bo rfl) ?_
  refine fl_Tq.cal rfl rfl (fl_bo rfl) rfl ?_
  refine t2_get (C := C) (W := 5) (v := f 280 (444 + 61 * C + 5)) hc (by decide +kernel) hC (by decide) (by simp only [fl_row_self, upd_ne (by omega : 444 + 61 * C + 5 ≠ 444 + 61 * C + 9)]) ?_
  show fl_Tq _ 217 52 [some (.inr (.inr (.inl (76, 277)))), some (.inl c), none] [.inl (f 280 (444 + 61 * C + 5)), .inl (5 : Int32), .inl c, .inr (.inr (.inl (76, 277)))] (fl_row f 280 (upd (f 280) (444 + 61 * C + 9) ((f 280 (444 + 61 * C + 9)) + (((((f 280 5) * (f 280 59)) / (1000 : Int32)) - (f 280 (444 + 61 * C + 9))) / (8 : Int32)))), l) _
  refine fl_Tq.stp (pc' := 53) (lv' := [some (.inr (.inr (.inl (76, 277)))), some (.inl c), none]) (st' := [.inr (.inr (.inl (76, 277))), .inl (f 280 (444 + 61 * C + 5)), .inl (5 : Int32), .inl c, .inr (.inr (.inl (76, 277)))]) (m' := (fl_row f 280 (upd (f 280) (444 + 61 * C + 9) ((f 280 (444 + 61 * C + 9)) + (((((f 280 5) * (f 280 59)) / (1000 : Int32)) - (f 280 (444 + 61 * C + 9))) / (8 : Int32)))), l)) rfl rfl (fl_bo rfl) rfl ?_
  refine fl_Tq.stp (pc' := 56) (lv' := [some (.inr (.inr (.inl (76, 277)))), some (.inl c), none]) (st' := [.inr (.inr (.inl (79, 280))), .inl (f 280 (444 + 61 * C + 5)), .inl (5 : Int32), .inl c, .inr (.inr (.inl (76, 277)))]) (m' := (fl_row f 280 (upd (f 280) (444 + 61 * C + 9) ((f 280 (444 + 61 * C + 9)) + (((((f 280 5) * (f 280 59)) / (1000 : Int32)) - (f 280 (444 + 61 * C + 9))) / (8 : Int32)))), l)) rfl rfl (fl_bo rfl) rfl ?_
  refine fl_Tq.cI (c := (5 : Int32)) rfl (by decide +kernel) (fl_bo rfl) ?_
  refine fl_Tq.ldV (p := 280) (τ := 79) (n := 29780) (z := (0, 0, 0)) (k := 5) (v := f 280 5) rfl (fl_bo rfl) rfl (by decide +kernel) (by decide) (by simp only [fl_row_self, upd_ne (by omega : 5 ≠ 444 + 61 * C + 9)]) ?_
  refine fl_Tq.cal rfl rfl (fl_bo rfl) rfl ?_
  refine r_size_q  ?_
  show fl_Tq _ 217 61 [some (.inr (.inr (.inl (76, 277)))), some (.inl c), none] [.inl (r_size_v (f 280 5)), .inl (f 280 (444 + 61 * C + 5)), .inl (5 : Int32), .inl c, .inr (.inr (.inl (76, 277)))] (fl_row f 280 (upd (f 280) (444 + 61 * C + 9) ((f 280 (444 + 61 * C + 9)) + (((((f 280 5) * (f 280 59)) / (1000 : Int32)) - (f 280 (444 + 61 * C + 9))) / (8 : Int32)))), l) _
  refine fl_Tq.stp (pc' := 62) (lv' := [some (.inr (.inr (.inl (76, 277)))), some (.inl c), none]) (st' := [.inl ((f 280 (444 + 61 * C + 5)) + (r_size_v (f 280 5))), .inl (5 : Int32), .inl c, .inr (.inr (.inl (76, 277)))]) (m' := (fl_row f 280 (upd (f 280) (444 + 61 * C + 9) ((f 280 (444 + 61 * C + 9)) + (((((f 280 5) * (f 280 59)) / (1000 : Int32)) - (f 280 (444 + 61 * C + 9))) / (8 : Int32)))), l)) rfl rfl (fl_bo rfl) rfl ?_
  refine fl_Tq.cal rfl rfl (fl_bo rfl) rfl ?_
  refine t2_let (C := C) (W := 5) (m' := (fl_row f 280 (upd (upd (f 280) (444 + 61 * C + 9) ((f 280 (444 + 61 * C + 9)) + (((((f 280 5) * (f 280 59)) / (1000 : Int32)) - (f 280 (444 + 61 * C + 9))) / (8 : Int32)))) (444 + 61 * C + 5) ((f 280 (444 + 61 * C + 5)) + (r_size_v (f 280 5)))), l)) hc (by decide +kernel) hC (by decide) (t2_upr) ?_
  show fl_Tq _ 217 65 [some (.inr (.inr (.inl (76, 277)))), some (.inl c), none] [] (fl_row f 280 (upd (upd (f 280) (444 + 61 * C + 9) ((f 280 (444 + 61 * C + 9)) + (((((f 280 5) * (f 280 59)) / (1000 : Int32)) - (f 280 (444 + 61 * C + 9))) / (8 : Int32)))) (444 + 61 * C + 5) ((f 280 (444 + 61 * C + 5)) + (r_size_v (f 280 5)))), l) _
  refine fl_Tq.cS (c := (3600 : Int32)) rfl (by decide +kernel) (fl_bo rfl) ?_
  refine fl_Tq.stp (pc' := 69) (lv' := [some (.inr (.inr (.inl (76, 277)))), some (.inl c), none]) (st' := [.inr (.inr (.inl (76, 277))), .inl (3600 : Int32)]) (m' := (fl_row f 280 (upd (upd (f 280) (444 + 61 * C + 9) ((f 280 (444 + 61 * C + 9)) + (((((f 280 5) * (f 280 59)) / (1000 : Int32)) - (f 280 (444 + 61 * C + 9))) / (8 : Int32)))) (444 + 61 * C + 5) ((f 280 (444 + 61 * C + 5)) + (r_size_v (f 280 5)))), l)) rfl rfl (fl_bo rfl) rfl ?_
  refine fl_Tq.cB (c := (24 : Int32)) rfl (by decide +kernel) (fl_bo rfl) ?_
  refine fl_Tq.cal rfl rfl (fl_bo rfl) rfl ?_
  refine t2_its (W := 24) (v := f 280 58) (by decide +kernel) (by decide) (by simp only [fl_row_self, upd_ne (by omega : 58 ≠ 444 + 61 * C + 5), upd_ne (by omega : 58 ≠ 444 + 61 * C + 9)]) ?_
  show fl_Tq _ 217 74 [some (.inr (.inr (.inl (76, 277)))), some (.inl c), none] [.inl (f 280 58), .inl (3600 : Int32)] (fl_row f 280 (upd (upd (f 280) (444 + 61 * C + 9) ((f 280 (444 + 61 * C + 9)) + (((((f 280 5) * (f 280 59)) / (1000 : Int32)) - (f 280 (444 + 61 * C + 9))) / (8 : Int32)))) (444 + 61 * C + 5) ((f 280 (444 + 61 * C + 5)) + (r_size_v (f 280 5)))), l) _
  refine fl_Tq.stp (pc' := 75) (lv' := [some (.inr (.inr (.inl (76, 277)))), some (.inl c), none]) (st' := [.inl ((3600 : Int32) * (f 280 58))]) (m' := (fl_row f 280 (upd (upd (f 280) (444 + 61 * C + 9) ((f 280 (444 + 61 * C + 9)) + (((((f 280 5) * (f 280 59)) / (1000 : Int32)) - (f 280 (444 + 61 * C + 9))) / (8 : Int32)))) (444 + 61 * C + 5) ((f 280 (444 + 61 * C + 5)) + (r_size_v (f 280 5)))), l)) rfl rfl (fl_bo rfl) rfl ?_
  refine fl_Tq.stp (pc' := 76) (lv' := [some (.inr (.inr (.inl (76, 277)))), some (.inl c), some (.inl ((3600 : Int32) * (f 280 58)))]) (st' := []) (m' := (fl_row f 280 (upd (upd (f 280) (444 + 61 * C + 9) ((f 280 (444 + 61 * C + 9)) + (((((f 280 5) * (f 280 59)) / (1000 : Int32)) - (f 280 (444 + 61 * C + 9))) / (8 : Int32)))) (444 + 61 * C + 5) ((f 280 (444 + 61 * C + 5)) + (r_size_v (f 280 5)))), l)) rfl rfl (fl_bo rfl) rfl ?_
  refine t2_wh (g := (fun f' => r_goOld_g76 f' c C ((3600 : Int32) * (f 280 58)))) (I := (fun _ => True)) (μ := (fun f => (f 280 (444 + 61 * C + 5)).toInt.toNat)) (S := fun f' => fl_Tq (pw_P L xs) 217 76 [some (.inr (.inr (.inl (76, 277)))), some (.inl c), some (.inl ((3600 : Int32) * (f 280 58)))] [] (f', l) Q) (E := fun f' => fl_Tq (pw_P L xs) 217 137 [some (.inr (.inr (.inl (76, 277)))), some (.inl c), some (.inl ((3600 : Int32) * (f 280 58)))] [] (f', l) Q) (fun f f' _ e => ⟨True.intro, r_goOld_dec hb e⟩) (fun f' hI k0 k1 => r_goOld_g76_q hc hC k0 k1) 2147483647 _ True.intro (t2_tn _) ?_
  show fl_Tq _ 217 137 [some (.inr (.inr (.inl (76, 277)))), some (.inl c), some (.inl ((3600 : Int32) * (f 280 58)))] [] (t2_wf (fun f' => r_goOld_g76 f' c C ((3600 : Int32) * (f 280 58))) 2147483647 (fl_row f 280 (upd (upd (f 280) (444 + 61 * C + 9) ((f 280 (444 + 61 * C + 9)) + (((((f 280 5) * (f 280 59)) / (1000 : Int32)) - (f 280 (444 + 61 * C + 9))) / (8 : Int32)))) (444 + 61 * C + 5) ((f 280 (444 + 61 * C + 5)) + (r_size_v (f 280 5))))), l) _
  refine fl_Tq.stp (pc' := 138) (lv' := [some (.inr (.inr (.inl (76, 277)))), some (.inl c), some (.inl ((3600 : Int32) * (f 280 58)))]) (st' := [.inr (.inr (.inl (76, 277)))]) (m' := (t2_wf (fun f' => r_goOld_g76 f' c C ((3600 : Int32) * (f 280 58))) 2147483647 (fl_row f 280 (upd (upd (f 280) (444 + 61 * C + 9) ((f 280 (444 + 61 * C + 9)) + (((((f 280 5) * (f 280 59)) / (1000 : Int32)) - (f 280 (444 + 61 * C + 9))) / (8 : Int32)))) (444 + 61 * C + 5) ((f 280 (444 + 61 * C + 5)) + (r_size_v (f 280 5))))), l)) rfl rfl (fl_bo rfl) rfl ?_
  refine fl_Tq.stp (pc' := 139) (lv' := [some (.inr (.inr (.inl (76, 277)))), some (.inl c), some (.inl ((3600 : Int32) * (f 280 58)))]) (st' := [.inl c, .inr (.inr (.inl (76, 277)))]) (m' := (t2_wf (fun f' => r_goOld_g76 f' c C ((3600 : Int32) * (f 280 58))) 2147483647 (fl_row f 280 (upd (upd (f 280) (444 + 61 * C + 9) ((f 280 (444 + 61 * C + 9)) + (((((f 280 5) * (f 280 59)) / (1000 : Int32)) - (f 280 (444 + 61 * C + 9))) / (8 : Int32)))) (444 + 61 * C + 5) ((f 280 (444 + 61 * C + 5)) + (r_size_v (f 280 5))))), l)) rfl rfl (fl_bo rfl) rfl ?_
  refine fl_Tq.cI (c := (4 : Int32)) rfl (by decide +kernel) (fl_bo rfl) ?_
  refine fl_Tq.stp (pc' := 141) (lv' := [some (.inr (.inr (.inl (76, 277)))), some (.inl c), some (.inl ((3600 : Int32) * (f 280 58)))]) (st' := [.inr (.inr (.inl (76, 277))), .inl (4 : Int32), .inl c, .inr (.inr (.inl (76, 277)))]) (m' := (t2_wf (fun f' => r_goOld_g76 f' c C ((3600 : Int32) * (f 280 58))) 2147483647 (fl_row f 280 (upd (upd (f 280) (444 + 61 * C + 9) ((f 280 (444 + 61 * C + 9)) + (((((f 280 5) * (f 280 59)) / (1000 : Int32)) - (f 280 (444 + 61 * C + 9))) / (8 : Int32)))) (444 + 61 * C + 5) ((f 280 (444 + 61 * C + 5)) + (r_size_v (f 280 5))))), l)) rfl rfl (fl_bo rfl) rfl ?_
  refine fl_Tq.stp (pc' := 142) (lv' := [some (.inr (.inr (.inl (76, 277)))), some (.inl c), some (.inl ((3600 : Int32) * (f 280 58)))]) (st' := [.inl c, .inr (.inr (.inl (76, 277))), .inl (4 : Int32), .inl c, .inr (.inr (.inl (76, 277)))]) (m' := (t2_wf (fun f' => r_goOld_g76 f' c C ((3600 : Int32) * (f 280 58))) 2147483647 (fl_row f 280 (upd (upd (f 280) (444 + 61 * C + 9) ((f 280 (444 + 61 * C + 9)) + (((((f 280 5) * (f 280 59)) / (1000 : Int32)) - (f 280 (444 + 61 * C + 9))) / (8 : Int32)))) (444 + 61 * C + 5) ((f 280 (444 + 61 * C + 5)) + (r_size_v (f 280 5))))), l)) rfl rfl (fl_bo rfl) rfl ?_
  refine fl_Tq.cI (c := (4 : Int32)) rfl (by decide +kernel) (fl_bo rfl) ?_
  refine fl_Tq.cal rfl rfl (fl_bo rfl) rfl ?_
  refine t2_get (C := C) (W := 4) (v := (t2_wf (fun f' => r_goOld_g76 f' c C ((3600 : Int32) * (f 280 58))) 2147483647 (fl_row f 280 (upd (upd (f 280) (444 + 61 * C + 9) ((f 280 (444 + 61 * C + 9)) + (((((f 280 5) * (f 280 59)) / (1000 : Int32)) - (f 280 (444 + 61 * C + 9))) / (8 : Int32)))) (444 + 61 * C + 5) ((f 280 (444 + 61 * C + 5)) + (r_size_v (f 280 5)))))) 280 (444 + 61 * C + 4)) hc (by decide +kernel) hC (by decide) rfl ?_
  show fl_Tq _ 217 146 [some (.inr (.inr (.inl (76, 277)))), some (.inl c), some (.inl ((3600 : Int32) * (f 280 58)))] [.inl ((t2_wf (fun f' => r_goOld_g76 f' c C ((3600 : Int32) * (f 280 58))) 2147483647 (fl_row f 280 (upd (upd (f 280) (444 + 61 * C + 9) ((f 280 (444 + 61 * C + 9)) + (((((f 280 5) * (f 280 59)) / (1000 : Int32)) - (f 280 (444 + 61 * C + 9))) / (8 : Int32)))) (444 + 61 * C + 5) ((f 280 (444 + 61 * C + 5)) + (r_size_v (f 280 5)))))) 280 (444 + 61 * C + 4)), .inl (4 : Int32), .inl c, .inr (.inr (.inl (76, 277)))] (t2_wf (fun f' => r_goOld_g76 f' c C ((3600 : Int32) * (f 280 58))) 2147483647 (fl_row f 280 (upd (upd (f 280) (444 + 61 * C + 9) ((f 280 (444 + 61 * C + 9)) + (((((f 280 5) * (f 280 59)) / (1000 : Int32)) - (f 280 (444 + 61 * C + 9))) / (8 : Int32)))) (444 + 61 * C + 5) ((f 280 (444 + 61 * C + 5)) + (r_size_v (f 280 5))))), l) _
  refine fl_Tq.stp (pc' := 147) (lv' := [some (.inr (.inr (.inl (76, 277)))), some (.inl c), some (.inl ((3600 : Int32) * (f 280 58)))]) (st' := [.inr (.inr (.inl (76, 277))), .inl ((t2_wf (fun f' => r_goOld_g76 f' c C ((3600 : Int32) * (f 280 58))) 2147483647 (fl_row f 280 (upd (upd (f 280) (444 + 61 * C + 9) ((f 280 (444 + 61 * C + 9)) + (((((f 280 5) * (f 280 59)) / (1000 : Int32)) - (f 280 (444 + 61 * C + 9))) / (8 : Int32)))) (444 + 61 * C + 5) ((f 280 (444 + 61 * C + 5)) + (r_size_v (f 280 5)))))) 280 (444 + 61 * C + 4)), .inl (4 : Int32), .inl c, .inr (.inr (.inl (76, 277)))]) (m' := (t2_wf (fun f' => r_goOld_g76 f' c C ((3600 : Int32) * (f 280 58))) 2147483647 (fl_row f 280 (upd (upd (f 280) (444 + 61 * C + 9) ((f 280 (444 + 61 * C + 9)) + (((((f 280 5) * (f 280 59)) / (1000 : Int32)) - (f 280 (444 + 61 * C + 9))) / (8 : Int32)))) (444 + 61 * C + 5) ((f 280 (444 + 61 * C + 5)) + (r_size_v (f 280 5))))), l)) rfl rfl (fl_bo rfl) rfl ?_
  refine fl_Tq.stp (pc' := 150) (lv' := [some (.inr (.inr (.inl (76, 277)))), some (.inl c), some (.inl ((3600 : Int32) * (f 280 58)))]) (st' := [.inr (.inr (.inl (79, 280))), .inl ((t2_wf (fun f' => r_goOld_g76 f' c C ((3600 : Int32) * (f 280 58))) 2147483647 (fl_row f 280 (upd (upd (f 280) (444 + 61 * C + 9) ((f 280 (444 + 61 * C + 9)) + (((((f 280 5) * (f 280 59)) / (1000 : Int32)) - (f 280 (444 + 61 * C + 9))) / (8 : Int32)))) (444 + 61 * C + 5) ((f 280 (444 + 61 * C + 5)) + (r_size_v (f 280 5)))))) 280 (444 + 61 * C + 4)), .inl (4 : Int32), .inl c, .inr (.inr (.inl (76, 277)))]) (m' := (t2_wf (fun f' => r_goOld_g76 f' c C ((3600 : Int32) * (f 280 58))) 2147483647 (fl_row f 280 (upd (upd (f 280) (444 + 61 * C + 9) ((f 280 (444 + 61 * C + 9)) + (((((f 280 5) * (f 280 59)) / (1000 : Int32)) - (f 280 (444 + 61 * C + 9))) / (8 : Int32)))) (444 + 61 * C + 5) ((f 280 (444 + 61 * C + 5)) + (r_size_v (f 280 5))))), l)) rfl rfl (fl_bo rfl) rfl ?_
  refine fl_Tq.cI (c := (5 : Int32)) rfl (by decide +kernel) (fl_bo rfl) ?_
  refine fl_Tq.ldV (p := 280) (τ := 79) (n := 29780) (z := (0, 0, 0)) (k := 5) (v := f 280 5) rfl (fl_bo rfl) rfl (by decide +kernel) (by decide) (by simp only [r_goOld_ww (w := 5) (by omega : 5 ≠ 444 + 61 * C + 0) (by omega : 5 ≠ 444 + 61 * C + 1) (by omega : 5 ≠ 444 + 61 * C + 4) (by omega : 5 ≠ 444 + 61 * C + 5), fl_row_self, upd_ne (by omega : 5 ≠ 444 + 61 * C + 5), upd_ne (by omega : 5 ≠ 444 + 61 * C + 9)]) ?_
  refine fl_Tq.stp (pc' := 153) (lv' := [some (.inr (.inr (.inl (76, 277)))), some (.inl c), some (.inl ((3600 : Int32) * (f 280 58)))]) (st' := [.inl (((t2_wf (fun f' => r_goOld_g76 f' c C ((3600 : Int32) * (f 280 58))) 2147483647 (fl_row f 280 (upd (upd (f 280) (444 + 61 * C + 9) ((f 280 (444 + 61 * C + 9)) + (((((f 280 5) * (f 280 59)) / (1000 : Int32)) - (f 280 (444 + 61 * C + 9))) / (8 : Int32)))) (444 + 61 * C + 5) ((f 280 (444 + 61 * C + 5)) + (r_size_v (f 280 5)))))) 280 (444 + 61 * C + 4)) + (f 280 5)), .inl (4 : Int32), .inl c, .inr (.inr (.inl (76, 277)))]) (m' := (t2_wf (fun f' => r_goOld_g76 f' c C ((3600 : Int32) * (f 280 58))) 2147483647 (fl_row f 280 (upd (upd (f 280) (444 + 61 * C + 9) ((f 280 (444 + 61 * C + 9)) + (((((f 280 5) * (f 280 59)) / (1000 : Int32)) - (f 280 (444 + 61 * C + 9))) / (8 : Int32)))) (444 + 61 * C + 5) ((f 280 (444 + 61 * C + 5)) + (r_size_v (f 280 5))))), l)) rfl rfl (fl_bo rfl) rfl ?_
  refine fl_Tq.stp (pc' := 154) (lv' := [some (.inr (.inr (.inl (76, 277)))), some (.inl c), some (.inl ((3600 : Int32) * (f 280 58)))]) (st' := [.inr (.inr (.inl (76, 277))), .inl (((t2_wf (fun f' => r_goOld_g76 f' c C ((3600 : Int32) * (f 280 58))) 2147483647 (fl_row f 280 (upd (upd (f 280) (444 + 61 * C + 9) ((f 280 (444 + 61 * C + 9)) + (((((f 280 5) * (f 280 59)) / (1000 : Int32)) - (f 280 (444 + 61 * C + 9))) / (8 : Int32)))) (444 + 61 * C + 5) ((f 280 (444 + 61 * C + 5)) + (r_size_v (f 280 5)))))) 280 (444 + 61 * C + 4)) + (f 280 5)), .inl (4 : Int32), .inl c, .inr (.inr (.inl (76, 277)))]) (m' := (t2_wf (fun f' => r_goOld_g76 f' c C ((3600 : Int32) * (f 280 58))) 2147483647 (fl_row f 280 (upd (upd (f 280) (444 + 61 * C + 9) ((f 280 (444 + 61 * C + 9)) + (((((f 280 5) * (f 280 59)) / (1000 : Int32)) - (f 280 (444 + 61 * C + 9))) / (8 : Int32)))) (444 + 61 * C + 5) ((f 280 (444 + 61 * C + 5)) + (r_size_v (f 280 5))))), l)) rfl rfl (fl_bo rfl) rfl ?_
  refine fl_Tq.cB (c := (18 : Int32)) rfl (by decide +kernel) (fl_bo rfl) ?_
  refine fl_Tq.cal rfl rfl (fl_bo rfl) rfl ?_
  refine t2_its (W := 18) (v := f 280 52) (by decide +kernel) (by decide) (by simp only [r_goOld_ww (w := 52) (by omega : 52 ≠ 444 + 61 * C + 0) (by omega : 52 ≠ 444 + 61 * C + 1) (by omega : 52 ≠ 444 + 61 * C + 4) (by omega : 52 ≠ 444 + 61 * C + 5), fl_row_self, upd_ne (by omega : 52 ≠ 444 + 61 * C + 5), upd_ne (by omega : 52 ≠ 444 + 61 * C + 9)]) ?_
  show fl_Tq _ 217 159 [some (.inr (.inr (.inl (76, 277)))), some (.inl c), some (.inl ((3600 : Int32) * (f 280 58)))] [.inl (f 280 52), .inl (((t2_wf (fun f' => r_goOld_g76 f' c C ((3600 : Int32) * (f 280 58))) 2147483647 (fl_row f 280 (upd (upd (f 280) (444 + 61 * C + 9) ((f 280 (444 + 61 * C + 9)) + (((((f 280 5) * (f 280 59)) / (1000 : Int32)) - (f 280 (444 + 61 * C + 9))) / (8 : Int32)))) (444 + 61 * C + 5) ((f 280 (444 + 61 * C + 5)) + (r_size_v (f 280 5)))))) 280 (444 + 61 * C + 4)) + (f 280 5)), .inl (4 : Int32), .inl c, .inr (.inr (.inl (76, 277)))] (t2_wf (fun f' => r_goOld_g76 f' c C ((3600 : Int32) * (f 280 58))) 2147483647 (fl_row f 280 (upd (upd (f 280) (444 + 61 * C + 9) ((f 280 (444 + 61 * C + 9)) + (((((f 280 5) * (f 280 59)) / (1000 : Int32)) - (f 280 (444 + 61 * C + 9))) / (8 : Int32)))) (444 + 61 * C + 5) ((f 280 (444 + 61 * C + 5)) + (r_size_v (f 280 5))))), l) _
  refine fl_Tq.stp (pc' := 160) (lv' := [some (.inr (.inr (.inl (76, 277)))), some (.inl c), some (.inl ((3600 : Int32) * (f 280 58)))]) (st' := [.inl ((((t2_wf (fun f' => r_goOld_g76 f' c C ((3600 : Int32) * (f 280 58))) 2147483647 (fl_row f 280 (upd (upd (f 280) (444 + 61 * C + 9) ((f 280 (444 + 61 * C + 9)) + (((((f 280 5) * (f 280 59)) / (1000 : Int32)) - (f 280 (444 + 61 * C + 9))) / (8 : Int32)))) (444 + 61 * C + 5) ((f 280 (444 + 61 * C + 5)) + (r_size_v (f 280 5)))))) 280 (444 + 61 * C + 4)) + (f 280 5)) + (f 280 52)), .inl (4 : Int32), .inl c, .inr (.inr (.inl (76, 277)))]) (m' := (t2_wf (fun f' => r_goOld_g76 f' c C ((3600 : Int32) * (f 280 58))) 2147483647 (fl_row f 280 (upd (upd (f 280) (444 + 61 * C + 9) ((f 280 (444 + 61 * C + 9)) + (((((f 280 5) * (f 280 59)) / (1000 : Int32)) - (f 280 (444 + 61 * C + 9))) / (8 : Int32)))) (444 + 61 * C + 5) ((f 280 (444 + 61 * C + 5)) + (r_size_v (f 280 5))))), l)) rfl rfl (fl_bo rfl) rfl ?_
  refine fl_Tq.cal rfl rfl (fl_bo rfl) rfl ?_
  refine t2_let (C := C) (W := 4) (m' := (fl_row (t2_wf (fun f' => r_goOld_g76 f' c C ((3600 : Int32) * (f 280 58))) 2147483647 (fl_row f 280 (upd (upd (f 280) (444 + 61 * C + 9) ((f 280 (444 + 61 * C + 9)) + (((((f 280 5) * (f 280 59)) / (1000 : Int32)) - (f 280 (444 + 61 * C + 9))) / (8 : Int32)))) (444 + 61 * C + 5) ((f 280 (444 + 61 * C + 5)) + (r_size_v (f 280 5)))))) 280 (upd ((t2_wf (fun f' => r_goOld_g76 f' c C ((3600 : Int32) * (f 280 58))) 2147483647 (fl_row f 280 (upd (upd (f 280) (444 + 61 * C + 9) ((f 280 (444 + 61 * C + 9)) + (((((f 280 5) * (f 280 59)) / (1000 : Int32)) - (f 280 (444 + 61 * C + 9))) / (8 : Int32)))) (444 + 61 * C + 5) ((f 280 (444 + 61 * C + 5)) + (r_size_v (f 280 5)))))) 280) (444 + 61 * C + 4) ((((t2_wf (fun f' => r_goOld_g76 f' c C ((3600 : Int32) * (f 280 58))) 2147483647 (fl_row f 280 (upd (upd (f 280) (444 + 61 * C + 9) ((f 280 (444 + 61 * C + 9)) + (((((f 280 5) * (f 280 59)) / (1000 : Int32)) - (f 280 (444 + 61 * C + 9))) / (8 : Int32)))) (444 + 61 * C + 5) ((f 280 (444 + 61 * C + 5)) + (r_size_v (f 280 5)))))) 280 (444 + 61 * C + 4)) + (f 280 5)) + (f 280 52))), l)) hc (by decide +kernel) hC (by decide) (t2_upn rfl) ?_
  show fl_Tq _ 217 163 [some (.inr (.inr (.inl (76, 277)))), some (.inl c), some (.inl ((3600 : Int32) * (f 280 58)))] [] (fl_row (t2_wf (fun f' => r_goOld_g76 f' c C ((3600 : Int32) * (f 280 58))) 2147483647 (fl_row f 280 (upd (upd (f 280) (444 + 61 * C + 9) ((f 280 (444 + 61 * C + 9)) + (((((f 280 5) * (f 280 59)) / (1000 : Int32)) - (f 280 (444 + 61 * C + 9))) / (8 : Int32)))) (444 + 61 * C + 5) ((f 280 (444 + 61 * C + 5)) + (r_size_v (f 280 5)))))) 280 (upd ((t2_wf (fun f' => r_goOld_g76 f' c C ((3600 : Int32) * (f 280 58))) 2147483647 (fl_row f 280 (upd (upd (f 280) (444 + 61 * C + 9) ((f 280 (444 + 61 * C + 9)) + (((((f 280 5) * (f 280 59)) / (1000 : Int32)) - (f 280 (444 + 61 * C + 9))) / (8 : Int32)))) (444 + 61 * C + 5) ((f 280 (444 + 61 * C + 5)) + (r_size_v (f 280 5)))))) 280) (444 + 61 * C + 4) ((((t2_wf (fun f' => r_goOld_g76 f' c C ((3600 : Int32) * (f 280 58))) 2147483647 (fl_row f 280 (upd (upd (f 280) (444 + 61 * C + 9) ((f 280 (444 + 61 * C + 9)) + (((((f 280 5) * (f 280 59)) / (1000 : Int32)) - (f 280 (444 + 61 * C + 9))) / (8 : Int32)))) (444 + 61 * C + 5) ((f 280 (444 + 61 * C + 5)) + (r_size_v (f 280 5)))))) 280 (444 + 61 * C + 4)) + (f 280 5)) + (f 280 52))), l) _
  refine fl_Tq.stp (pc' := 164) (lv' := [some (.inr (.inr (.inl (76, 277)))), some (.inl c), some (.inl ((3600 : Int32) * (f 280 58)))]) (st' := [.inr (.inr (.inl (76, 277)))]) (m' := (fl_row (t2_wf (fun f' => r_goOld_g76 f' c C ((3600 : Int32) * (f 280 58))) 2147483647 (fl_row f 280 (upd (upd (f 280) (444 + 61 * C + 9) ((f 280 (444 + 61 * C + 9)) + (((((f 280 5) * (f 280 59)) / (1000 : Int32)) - (f 280 (444 + 61 * C + 9))) / (8 : Int32)))) (444 + 61 * C + 5) ((f 280 (444 + 61 * C + 5)) + (r_size_v (f 280 5)))))) 280 (upd ((t2_wf (fun f' => r_goOld_g76 f' c C ((3600 : Int32) * (f 280 58))) 2147483647 (fl_row f 280 (upd (upd (f 280) (444 + 61 * C + 9) ((f 280 (444 + 61 * C + 9)) + (((((f 280 5) * (f 280 59)) / (1000 : Int32)) - (f 280 (444 + 61 * C + 9))) / (8 : Int32)))) (444 + 61 * C + 5) ((f 280 (444 + 61 * C + 5)) + (r_size_v (f 280 5)))))) 280) (444 + 61 * C + 4) ((((t2_wf (fun f' => r_goOld_g76 f' c C ((3600 : Int32) * (f 280 58))) 2147483647 (fl_row f 280 (upd (upd (f 280) (444 + 61 * C + 9) ((f 280 (444 + 61 * C + 9)) + (((((f 280 5) * (f 280 59)) / (1000 : Int32)) - (f 280 (444 + 61 * C + 9))) / (8 : Int32)))) (444 + 61 * C + 5) ((f 280 (444 + 61 * C + 5)) + (r_size_v (f 280 5)))))) 280 (444 + 61 * C + 4)) + (f 280 5)) + (f 280 52))), l)) rfl rfl (fl_bo rfl) rfl ?_
  refine fl_Tq.stp (pc' := 165) (lv' := [some (.inr (.inr (.inl (76, 277)))), some (.inl c), some (.inl ((3600 : Int32) * (f 280 58)))]) (st' := [.inl c, .inr (.inr (.inl (76, 277)))]) (m' := (fl_row (t2_wf (fun f' => r_goOld_g76 f' c C ((3600 : Int32) * (f 280 58))) 2147483647 (fl_row f 280 (upd (upd (f 280) (444 + 61 * C + 9) ((f 280 (444 + 61 * C + 9)) + (((((f 280 5) * (f 280 59)) / (1000 : Int32)) - (f 280 (444 + 61 * C + 9))) / (8 : Int32)))) (444 + 61 * C + 5) ((f 280 (444 + 61 * C + 5)) + (r_size_v (f 280 5)))))) 280 (upd ((t2_wf (fun f' => r_goOld_g76 f' c C ((3600 : Int32) * (f 280 58))) 2147483647 (fl_row f 280 (upd (upd (f 280) (444 + 61 * C + 9) ((f 280 (444 + 61 * C + 9)) + (((((f 280 5) * (f 280 59)) / (1000 : Int32)) - (f 280 (444 + 61 * C + 9))) / (8 : Int32)))) (444 + 61 * C + 5) ((f 280 (444 + 61 * C + 5)) + (r_size_v (f 280 5)))))) 280) (444 + 61 * C + 4) ((((t2_wf (fun f' => r_goOld_g76 f' c C ((3600 : Int32) * (f 280 58))) 2147483647 (fl_row f 280 (upd (upd (f 280) (444 + 61 * C + 9) ((f 280 (444 + 61 * C + 9)) + (((((f 280 5) * (f 280 59)) / (1000 : Int32)) - (f 280 (444 + 61 * C + 9))) / (8 : Int32)))) (444 + 61 * C + 5) ((f 280 (444 + 61 * C + 5)) + (r_size_v (f 280 5)))))) 280 (444 + 61 * C + 4)) + (f 280 5)) + (f 280 52))), l)) rfl rfl (fl_bo rfl) rfl ?_
  refine fl_Tq.cal rfl rfl (fl_bo rfl) rfl ?_
  refine r_hold_q hc hC ?_
  show fl_Tq _ 217 168 [some (.inr (.inr (.inl (76, 277)))), some (.inl c), some (.inl ((3600 : Int32) * (f 280 58)))] [] (r_hold_m (fl_row (t2_wf (fun f' => r_goOld_g76 f' c C ((3600 : Int32) * (f 280 58))) 2147483647 (fl_row f 280 (upd (upd (f 280) (444 + 61 * C + 9) ((f 280 (444 + 61 * C + 9)) + (((((f 280 5) * (f 280 59)) / (1000 : Int32)) - (f 280 (444 + 61 * C + 9))) / (8 : Int32)))) (444 + 61 * C + 5) ((f 280 (444 + 61 * C + 5)) + (r_size_v (f 280 5)))))) 280 (upd ((t2_wf (fun f' => r_goOld_g76 f' c C ((3600 : Int32) * (f 280 58))) 2147483647 (fl_row f 280 (upd (upd (f 280) (444 + 61 * C + 9) ((f 280 (444 + 61 * C + 9)) + (((((f 280 5) * (f 280 59)) / (1000 : Int32)) - (f 280 (444 + 61 * C + 9))) / (8 : Int32)))) (444 + 61 * C + 5) ((f 280 (444 + 61 * C + 5)) + (r_size_v (f 280 5)))))) 280) (444 + 61 * C + 4) ((((t2_wf (fun f' => r_goOld_g76 f' c C ((3600 : Int32) * (f 280 58))) 2147483647 (fl_row f 280 (upd (upd (f 280) (444 + 61 * C + 9) ((f 280 (444 + 61 * C + 9)) + (((((f 280 5) * (f 280 59)) / (1000 : Int32)) - (f 280 (444 + 61 * C + 9))) / (8 : Int32)))) (444 + 61 * C + 5) ((f 280 (444 + 61 * C + 5)) + (r_size_v (f 280 5)))))) 280 (444 + 61 * C + 4)) + (f 280 5)) + (f 280 52)))) c C, l) _
  exact fl_Tq.ret rfl rfl rfl k
noncomputable def r_goCells_b2_m (f : t2_F) (k : Nat) : t2_F := r_goWarm_m f (Int32.ofNat k) k
theorem r_goCells_b2_fr {f : t2_F} {k : Nat} {p : Nat}  (e280 : p ≠ 280) : r_goCells_b2_m f k p = f p := by
  unfold r_goCells_b2_m
  repeat' split
  all_goals first | rfl | simp only [fl_row_ne e280, r_goWarm_fr e280]
theorem r_goCells_b2_w {f : t2_F} {k : Nat} {w : Nat} (e0 : w ≠ 444 + 61 * k + 1) (e1 : w ≠ 444 + 61 * k + 3) : r_goCells_b2_m f k 280 w = f 280 w := by
  unfold r_goCells_b2_m
  repeat' split
  all_goals first | rfl | simp only [fl_row_self, upd_ne e0, upd_ne e1, r_goWarm_w e0 e1]
theorem r_goCells_b2_q {L : Nat} {xs : Nat → Int32} {f : t2_F} {l : t2_L} {Q : Option fl_V → fl_M → Prop} {k : Nat} {n : Nat} (hkn : k < n) (hb : (f 280 2).toInt = (n : Int)) (h16 : n ≤ 16) (hS : fl_Tq (pw_P L xs) 218 2 [some (.inr (.inr (.inl (76, 277)))), some (.inl (Int32.ofNat (k + 1)))] [] (r_goCells_b2_m f k, l) Q) : fl_Tq (pw_P L xs) 218 2 [some (.inr (.inr (.inl (76, 277)))), some (.inl (Int32.ofNat k))] [] (f, l) Q := by
  refine fl_Tq.stp (pc' := 3) (lv' := [some (.inr (.inr (.inl (76, 277)))), some (.inl (Int32.ofNat k))]) (st' := [.inl (Int32.ofNat k)]) (m' := (f, l)) rfl rfl (fl_bo rfl) rfl ?_
  refine fl_Tq.stp (pc' := 4) (lv' := [some (.inr (.inr (.inl (76, 277)))), some (.inl (Int32.ofNat k))]) (st' := [.inr (.inr (.inl (76, 277))), .inl (Int32.ofNat k)]) (m' := (f, l)) rfl rfl (fl_bo rfl) rfl ?_
  refine fl_Tq.stp (pc' := 7) (lv' := [some (.inr (.inr (.inl (76, 277)))), some (.inl (Int32.ofNat k))]) (st' := [.inr (.inr (.inl (79, 280))), .inl (Int32.ofNat k)]) (m' := (f, l)) rfl rfl (fl_bo rfl) rfl ?_
  refine fl_Tq.cI (c := (2 : Int32)) rfl (by decide +kernel) (fl_bo rfl) ?_
  refine fl_Tq.ldV (p := 280) (τ := 79) (n := 29780) (z := (0, 0, 0)) (k := 2) (v := f 280 2) rfl (fl_bo rfl) rfl (by decide +kernel) (by decide) rfl ?_
  refine fl_Tq.jf rfl (fl_bo rfl) (c2_ge_f (t2_lk hkn hb)) rfl ?_
  refine fl_Tq.stp (pc' := 13) (lv' := [some (.inr (.inr (.inl (76, 277)))), some (.inl (Int32.ofNat k))]) (st' := [.inr (.inr (.inl (76, 277)))]) (m' := (f, l)) rfl rfl (fl_bo rfl) rfl ?_
  refine fl_Tq.stp (pc' := 14) (lv' := [some (.inr (.inr (.inl (76, 277)))), some (.inl (Int32.ofNat k))]) (st' := [.inl (Int32.ofNat k), .inr (.inr (.inl (76, 277)))]) (m' := (f, l)) rfl rfl (fl_bo rfl) rfl ?_
  refine fl_Tq.cal rfl rfl (fl_bo rfl) rfl ?_
  refine r_goWarm_q (at_ofN (by omega)) (by omega) ?_
  show fl_Tq _ 218 17 [some (.inr (.inr (.inl (76, 277)))), some (.inl (Int32.ofNat k))] [] (r_goWarm_m f (Int32.ofNat k) k, l) _
  refine fl_Tq.stp (pc' := 20) (lv' := [some (.inr (.inr (.inl (76, 277)))), some (.inl ((Int32.ofNat k) + (1 : Int32)))]) (st' := []) (m' := (r_goWarm_m f (Int32.ofNat k) k, l)) rfl rfl (fl_bo rfl) rfl ?_
  refine fl_Tq.stp (pc' := 2) (lv' := [some (.inr (.inr (.inl (76, 277)))), some (.inl ((Int32.ofNat k) + (1 : Int32)))]) (st' := []) (m' := (r_goWarm_m f (Int32.ofNat k) k, l)) rfl rfl (fl_bo rfl) rfl ?_
  have em : r_goCells_b2_m f k = r_goWarm_m f (Int32.ofNat k) k := rfl
  rw [em, ← t2_k1] at hS
  exact hS
noncomputable def r_goCells_f2 (f : t2_F)  : Nat → t2_F
  | 0 => f
  | k + 1 => r_goCells_b2_m (r_goCells_f2 f k) k
theorem r_goCells_f2_fr {f : t2_F}  {p : Nat} : ∀ {k : Nat}  (e280 : p ≠ 280), r_goCells_f2 f k p = f p := by
  intro k
  induction k with
  | zero => intros; rfl
  | succ k ih =>
    intro  e280
    exact (r_goCells_b2_fr  e280).trans (ih  e280)
theorem r_goCells_f2_w {f : t2_F}  {w : Nat} : ∀ {k : Nat} (e0 : ∀ j : Nat, j < k → w ≠ 444 + 61 * j + 1) (e1 : ∀ j : Nat, j < k → w ≠ 444 + 61 * j + 3), r_goCells_f2 f k 280 w = f 280 w := by
  intro k
  induction k with
  | zero => intros; rfl
  | succ k ih =>
    intro e0 e1
    exact (r_goCells_b2_w (e0 k (by omega)) (e1 k (by omega))).trans (ih (fun j hj => e0 j (by omega)) (fun j hj => e1 j (by omega)))
noncomputable def r_goCells_b25_m (f : t2_F) (k : Nat) : t2_F := r_touch_m f (Int32.ofNat k) k
theorem r_goCells_b25_fr {f : t2_F} {k : Nat} {p : Nat}  (e280 : p ≠ 280) : r_goCells_b25_m f k p = f p := by
  unfold r_goCells_b25_m
  repeat' split
  all_goals first | rfl | simp only [fl_row_ne e280, r_touch_fr e280]
theorem r_goCells_b25_w {f : t2_F} {k : Nat} {w : Nat} (e0 : w ≠ 444 + 61 * k + 3) (e1 : w ≠ 444 + 61 * (k + 1) + 3) : r_goCells_b25_m f k 280 w = f 280 w := by
  unfold r_goCells_b25_m
  repeat' split
  all_goals first | rfl | simp only [fl_row_self, upd_ne e0, upd_ne e1, r_touch_w e0 e1]
theorem r_goCells_b25_q {L : Nat} {xs : Nat → Int32} {f : t2_F} {l : t2_L} {Q : Option fl_V → fl_M → Prop} {k : Nat} {n : Nat} (hkn : k < n) (hb : (n : Int) = max ((f 280 2).toInt - 1) 0) (h16 : n ≤ 15) (hS : fl_Tq (pw_P L xs) 218 25 [some (.inr (.inr (.inl (76, 277)))), some (.inl (Int32.ofNat (k + 1)))] [] (r_goCells_b25_m f k, l) Q) : fl_Tq (pw_P L xs) 218 25 [some (.inr (.inr (.inl (76, 277)))), some (.inl (Int32.ofNat k))] [] (f, l) Q := by
  refine fl_Tq.stp (pc' := 26) (lv' := [some (.inr (.inr (.inl (76, 277)))), some (.inl (Int32.ofNat k))]) (st' := [.inl (Int32.ofNat k)]) (m' := (f, l)) rfl rfl (fl_bo rfl) rfl ?_
  refine fl_Tq.cI (c := (1 : Int32)) rfl (by decide +kernel) (fl_bo rfl) ?_
  refine fl_Tq.stp (pc' := 28) (lv' := [some (.inr (.inr (.inl (76, 277)))), some (.inl (Int32.ofNat k))]) (st' := [.inl ((Int32.ofNat k) + (1 : Int32))]) (m' := (f, l)) rfl rfl (fl_bo rfl) rfl ?_
  refine fl_Tq.stp (pc' := 29) (lv' := [some (.inr (.inr (.inl (76, 277)))), some (.inl (Int32.ofNat k))]) (st' := [.inr (.inr (.inl (76, 277))), .inl ((Int32.ofNat k) + (1 : Int32))]) (m' := (f, l)) rfl rfl (fl_bo rfl) rfl ?_
  refine fl_Tq.stp (pc' := 32) (lv' := [some (.inr (.inr (.inl (76, 277)))), some (.inl (Int32.ofNat k))]) (st' := [.inr (.inr (.inl (79, 280))), .inl ((Int32.ofNat k) + (1 : Int32))]) (m' := (f, l)) rfl rfl (fl_bo rfl) rfl ?_
  refine fl_Tq.cI (c := (2 : Int32)) rfl (by decide +kernel) (fl_bo rfl) ?_
  refine fl_Tq.ldV (p := 280) (τ := 79) (n := 29780) (z := (0, 0, 0)) (k := 2) (v := f 280 2) rfl (fl_bo rfl) rfl (by decide +kernel) (by decide) rfl ?_
  refine fl_Tq.jf rfl (fl_bo rfl) (c2_ge_f (by have e1 : (1 : Int32).toInt = 1 := (by decide +kernel); have e2 : (Int32.ofNat k).toInt = ((k : Nat) : Int) := at_ofN (by omega); rw [at_add32] <;> rw [e2, e1] <;> omega)) rfl ?_
  refine fl_Tq.stp (pc' := 38) (lv' := [some (.inr (.inr (.inl (76, 277)))), some (.inl (Int32.ofNat k))]) (st' := [.inr (.inr (.inl (76, 277)))]) (m' := (f, l)) rfl rfl (fl_bo rfl) rfl ?_
  refine fl_Tq.stp (pc' := 39) (lv' := [some (.inr (.inr (.inl (76, 277)))), some (.inl (Int32.ofNat k))]) (st' := [.inl (Int32.ofNat k), .inr (.inr (.inl (76, 277)))]) (m' := (f, l)) rfl rfl (fl_bo rfl) rfl ?_
  refine fl_Tq.cal rfl rfl (fl_bo rfl) rfl ?_
  refine r_touch_q (at_ofN (by omega)) (by omega) (by omega) ?_
  show fl_Tq _ 218 42 [some (.inr (.inr (.inl (76, 277)))), some (.inl (Int32.ofNat k))] [] (r_touch_m f (Int32.ofNat k) k, l) _
  refine fl_Tq.stp (pc' := 45) (lv' := [some (.inr (.inr (.inl (76, 277)))), some (.inl ((Int32.ofNat k) + (1 : Int32)))]) (st' := []) (m' := (r_touch_m f (Int32.ofNat k) k, l)) rfl rfl (fl_bo rfl) rfl ?_
  refine fl_Tq.stp (pc' := 25) (lv' := [some (.inr (.inr (.inl (76, 277)))), some (.inl ((Int32.ofNat k) + (1 : Int32)))]) (st' := []) (m' := (r_touch_m f (Int32.ofNat k) k, l)) rfl rfl (fl_bo rfl) rfl ?_
  have em : r_goCells_b25_m f k = r_touch_m f (Int32.ofNat k) k := rfl
  rw [em, ← t2_k1] at hS
  exact hS
noncomputable def r_goCells_f25 (f : t2_F)  : Nat → t2_F
  | 0 => r_goCells_f2 f ((f 280 2).toInt.toNat)
  | k + 1 => r_goCells_b25_m (r_goCells_f25 f k) k
theorem r_goCells_f25_fr {f : t2_F}  {p : Nat} : ∀ {k : Nat}  (e280 : p ≠ 280), r_goCells_f25 f k p = (r_goCells_f2 f ((f 280 2).toInt.toNat)) p := by
  intro k
  induction k with
  | zero => intros; rfl
  | succ k ih =>
    intro  e280
    exact (r_goCells_b25_fr  e280).trans (ih  e280)
theorem r_goCells_f25_w {f : t2_F}  {w : Nat} : ∀ {k : Nat} (e0 : ∀ j : Nat, j < k → w ≠ 444 + 61 * j + 3) (e1 : ∀ j : Nat, j < k → w ≠ 444 + 61 * (j + 1) + 3), r_goCells_f25 f k 280 w = (r_goCells_f2 f ((f 280 2).toInt.toNat)) 280 w := by
  intro k
  induction k with
  | zero => intros; rfl
  | succ k ih =>
    intro e0 e1
    exact (r_goCells_b25_w (e0 k (by omega)) (e1 k (by omega))).trans (ih (fun j hj => e0 j (by omega)) (fun j hj => e1 j (by omega)))
noncomputable def r_goCells_b50_m (f : t2_F) (k : Nat) : t2_F := r_goOld_m f (Int32.ofNat k) k
theorem r_goCells_b50_fr {f : t2_F} {k : Nat} {p : Nat}  (e280 : p ≠ 280) : r_goCells_b50_m f k p = f p := by
  unfold r_goCells_b50_m
  repeat' split
  all_goals first | rfl | simp only [fl_row_ne e280, r_goOld_fr e280]
theorem r_goCells_b50_w {f : t2_F} {k : Nat} {w : Nat} (e0 : w ≠ 444 + 61 * k + 1) (e1 : w ≠ 444 + 61 * k + 4) (e2 : w ≠ 444 + 61 * k + 0) (e3 : w ≠ 444 + 61 * k + 5) (e4 : w ≠ 444 + 61 * k + 9) : r_goCells_b50_m f k 280 w = f 280 w := by
  unfold r_goCells_b50_m
  repeat' split
  all_goals first | rfl | simp only [fl_row_self, upd_ne e0, upd_ne e1, upd_ne e2, upd_ne e3, upd_ne e4, r_goOld_w e0 e1 e2 e3 e4]
theorem r_goCells_b50_q {L : Nat} {xs : Nat → Int32} {f : t2_F} {l : t2_L} {Q : Option fl_V → fl_M → Prop} {k : Nat} {n : Nat} (hkn : k < n) (hb : (f 280 2).toInt = (n : Int)) (h16 : n ≤ 16) (hbb : 0 ≤ ((3600 : Int32) * (f 280 58)).toInt) (hS : fl_Tq (pw_P L xs) 218 50 [some (.inr (.inr (.inl (76, 277)))), some (.inl (Int32.ofNat (k + 1)))] [] (r_goCells_b50_m f k, l) Q) : fl_Tq (pw_P L xs) 218 50 [some (.inr (.inr (.inl (76, 277)))), some (.inl (Int32.ofNat k))] [] (f, l) Q := by
  refine fl_Tq.stp (pc' := 51) (lv' := [some (.inr (.inr (.inl (76, 277)))), some (.inl (Int32.ofNat k))]) (st' := [.inl (Int32.ofNat k)]) (m' := (f, l)) rfl rfl (fl_bo rfl) rfl ?_
  refine fl_Tq.stp (pc' := 52) (lv' := [some (.inr (.inr (.inl (76, 277)))), some (.inl (Int32.ofNat k))]) (st' := [.inr (.inr (.inl (76, 277))), .inl (Int32.ofNat k)]) (m' := (f, l)) rfl rfl (fl_bo rfl) rfl ?_
  refine fl_Tq.stp (pc' := 55) (lv' := [some (.inr (.inr (.inl (76, 277)))), some (.inl (Int32.ofNat k))]) (st' := [.inr (.inr (.inl (79, 280))), .inl (Int32.ofNat k)]) (m' := (f, l)) rfl rfl (fl_bo rfl) rfl ?_
  refine fl_Tq.cI (c := (2 : Int32)) rfl (by decide +kernel) (fl_bo rfl) ?_
  refine fl_Tq.ldV (p := 280) (τ := 79) (n := 29780) (z := (0, 0, 0)) (k := 2) (v := f 280 2) rfl (fl_bo rfl) rfl (by decide +kernel) (by decide) rfl ?_
  refine fl_Tq.jf rfl (fl_bo rfl) (c2_ge_f (t2_lk hkn hb)) rfl ?_
  refine fl_Tq.stp (pc' := 61) (lv' := [some (.inr (.inr (.inl (76, 277)))), some (.inl (Int32.ofNat k))]) (st' := [.inr (.inr (.inl (76, 277)))]) (m' := (f, l)) rfl rfl (fl_bo rfl) rfl ?_
  refine fl_Tq.stp (pc' := 62) (lv' := [some (.inr (.inr (.inl (76, 277)))), some (.inl (Int32.ofNat k))]) (st' := [.inl (Int32.ofNat k), .inr (.inr (.inl (76, 277)))]) (m' := (f, l)) rfl rfl (fl_bo rfl) rfl ?_
  refine fl_Tq.cal rfl rfl (fl_bo rfl) rfl ?_
  refine r_goOld_q (at_ofN (by omega)) (by omega) hbb ?_
  show fl_Tq _ 218 65 [some (.inr (.inr (.inl (76, 277)))), some (.inl (Int32.ofNat k))] [] (r_goOld_m f (Int32.ofNat k) k, l) _
  refine fl_Tq.stp (pc' := 68) (lv' := [some (.inr (.inr (.inl (76, 277)))), some (.inl ((Int32.ofNat k) + (1 : Int32)))]) (st' := []) (m' := (r_goOld_m f (Int32.ofNat k) k, l)) rfl rfl (fl_bo rfl) rfl ?_
  refine fl_Tq.stp (pc' := 50) (lv' := [some (.inr (.inr (.inl (76, 277)))), some (.inl ((Int32.ofNat k) + (1 : Int32)))]) (st' := []) (m' := (r_goOld_m f (Int32.ofNat k) k, l)) rfl rfl (fl_bo rfl) rfl ?_
  have em : r_goCells_b50_m f k = r_goOld_m f (Int32.ofNat k) k := rfl
  rw [em, ← t2_k1] at hS
  exact hS
noncomputable def r_goCells_f50 (f : t2_F)  : Nat → t2_F
  | 0 => r_goCells_f25 f ((f 280 2).toInt.toNat - 1)
  | k + 1 => r_goCells_b50_m (r_goCells_f50 f k) k
theorem r_goCells_f50_fr {f : t2_F}  {p : Nat} : ∀ {k : Nat}  (e280 : p ≠ 280), r_goCells_f50 f k p = (r_goCells_f25 f ((f 280 2).toInt.toNat - 1)) p := by
  intro k
  induction k with
  | zero => intros; rfl
  | succ k ih =>
    intro  e280
    exact (r_goCells_b50_fr  e280).trans (ih  e280)
theorem r_goCells_f50_w {f : t2_F}  {w : Nat} : ∀ {k : Nat} (e0 : ∀ j : Nat, j < k → w ≠ 444 + 61 * j + 1) (e1 : ∀ j : Nat, j < k → w ≠ 444 + 61 * j + 4) (e2 : ∀ j : Nat, j < k → w ≠ 444 + 61 * j + 0) (e3 : ∀ j : Nat, j < k → w ≠ 444 + 61 * j + 5) (e4 : ∀ j : Nat, j < k → w ≠ 444 + 61 * j + 9), r_goCells_f50 f k 280 w = (r_goCells_f25 f ((f 280 2).toInt.toNat - 1)) 280 w := by
  intro k
  induction k with
  | zero => intros; rfl
  | succ k ih =>
    intro e0 e1 e2 e3 e4
    exact (r_goCells_b50_w (e0 k (by omega)) (e1 k (by omega)) (e2 k (by omega)) (e3 k (by omega)) (e4 k (by omega))).trans (ih (fun j hj => e0 j (by omega)) (fun j hj => e1 j (by omega)) (fun j hj => e2 j (by omega)) (fun j hj => e3 j (by omega)) (fun j hj => e4 j (by omega)))
noncomputable def r_goCells_m (f : t2_F) : t2_F := r_goCells_f50 f ((f 280 2).toInt.toNat)
theorem r_goCells_fr {f : t2_F}  {p : Nat}  (e280 : p ≠ 280) : r_goCells_m f p = f p := by
  unfold r_goCells_m
  repeat' split
  all_goals first | rfl | simp only [fl_row_ne e280, r_goCells_f50_fr (k := (f 280 2).toInt.toNat) e280, r_goCells_f25_fr (k := (f 280 2).toInt.toNat - 1) e280, r_goCells_f2_fr (k := (f 280 2).toInt.toNat) e280]
theorem r_goCells_w {f : t2_F}  {w : Nat} (e0 : ∀ j : Nat, w ≠ 444 + 61 * j + 1) (e1 : ∀ j : Nat, w ≠ 444 + 61 * j + 4) (e2 : ∀ j : Nat, w ≠ 444 + 61 * j + 0) (e3 : ∀ j : Nat, w ≠ 444 + 61 * j + 5) (e4 : ∀ j : Nat, w ≠ 444 + 61 * j + 9) (e5 : ∀ j : Nat, w ≠ 444 + 61 * j + 3) (e6 : ∀ j : Nat, w ≠ 444 + 61 * (j + 1) + 3) : r_goCells_m f 280 w = f 280 w := by
  unfold r_goCells_m
  repeat' split
  all_goals first | rfl | simp only [fl_row_self, r_goCells_f50_w (k := (f 280 2).toInt.toNat) (fun j hj => e0 j) (fun j hj => e1 j) (fun j hj => e2 j) (fun j hj => e3 j) (fun j hj => e4 j), r_goCells_f25_w (k := (f 280 2).toInt.toNat - 1) (fun j hj => e5 j) (fun j hj => e6 j), r_goCells_f2_w (k := (f 280 2).toInt.toNat) (fun j hj => e0 j) (fun j hj => e5 j)]
theorem r_goCells_q {L : Nat} {xs : Nat → Int32} {f : t2_F} {l : t2_L} {Q : Option fl_V → fl_M → Prop}  (hn : 0 ≤ (f 280 2).toInt ∧ (f 280 2).toInt ≤ 16) (hb : 0 ≤ ((3600 : Int32) * (f 280 58)).toInt) (k : Q none (r_goCells_m f, l)) : fl_Tq (pw_P L xs) 218 0 (fl_args (am_mxl (pw_P L xs) 218) [.inr (.inr (.inl (76, 277)))]) [] (f, l) Q := by
  refine fl_Tq.cI (c := (0 : Int32)) rfl (by decide +kernel) (fl_bo rfl) ?_
  refine fl_Tq.stp (pc' := 2) (lv' := [some (.inr (.inr (.inl (76, 277)))), some (.inl (0 : Int32))]) (st' := []) (m' := (f, l)) rfl rfl (fl_bo rfl) rfl ?_
  have hs2 : ∀ k : Nat, k < (f 280 2).toInt.toNat → fl_Tq (pw_P L xs) 218 2 [some (.inr (.inr (.inl (76, 277)))), some (.inl (Int32.ofNat (k + 1)))] [] (r_goCells_f2 f (k + 1), l) Q → fl_Tq (pw_P L xs) 218 2 [some (.inr (.inr (.inl (76, 277)))), some (.inl (Int32.ofNat k))] [] (r_goCells_f2 f k, l) Q := fun k hkn hS => r_goCells_b2_q hkn (by simp only [r_goCells_f2_w (k := k) (w := 2) (fun j hj => by omega) (fun j hj => by omega)]; exact (t2_nn hn.1)) (by omega) hS
  refine t2_for (S := fun k => fl_Tq (pw_P L xs) 218 2 [some (.inr (.inr (.inl (76, 277)))), some (.inl (Int32.ofNat k))] [] (r_goCells_f2 f k, l) Q) hs2 ?_
  show fl_Tq (pw_P L xs) 218 2 [some (.inr (.inr (.inl (76, 277)))), some (.inl (Int32.ofNat ((f 280 2).toInt.toNat)))] [] (r_goCells_f2 f ((f 280 2).toInt.toNat), l) _
  refine fl_Tq.stp (pc' := 3) (lv' := [some (.inr (.inr (.inl (76, 277)))), some (.inl (Int32.ofNat ((f 280 2).toInt.toNat)))]) (st' := [.inl (Int32.ofNat ((f 280 2).toInt.toNat))]) (m' := (r_goCells_f2 f ((f 280 2).toInt.toNat), l)) rfl rfl (fl_bo rfl) rfl ?_
  refine fl_Tq.stp (pc' := 4) (lv' := [some (.inr (.inr (.inl (76, 277)))), some (.inl (Int32.ofNat ((f 280 2).toInt.toNat)))]) (st' := [.inr (.inr (.inl (76, 277))), .inl (Int32.ofNat ((f 280 2).toInt.toNat))]) (m' := (r_goCells_f2 f ((f 280 2).toInt.toNat), l)) rfl rfl (fl_bo rfl) rfl ?_
  refine fl_Tq.stp (pc' := 7) (lv' := [some (.inr (.inr (.inl (76, 277)))), some (.inl (Int32.ofNat ((f 280 2).toInt.toNat)))]) (st' := [.inr (.inr (.inl (79, 280))), .inl (Int32.ofNat ((f 280 2).toInt.toNat))]) (m' := (r_goCells_f2 f ((f 280 2).toInt.toNat), l)) rfl rfl (fl_bo rfl) rfl ?_
  refine fl_Tq.cI (c := (2 : Int32)) rfl (by decide +kernel) (fl_bo rfl) ?_
  refine fl_Tq.ldV (p := 280) (τ := 79) (n := 29780) (z := (0, 0, 0)) (k := 2) (v := f 280 2) rfl (fl_bo rfl) rfl (by decide +kernel) (by decide) (by simp only [r_goCells_f2_w (k := (f 280 2).toInt.toNat) (w := 2) (fun j hj => by omega) (fun j hj => by omega)]) ?_
  refine fl_Tq.jt rfl (fl_bo rfl) (c2_ge_t (t2_ln (t2_nn hn.1))) rfl ?_
  refine fl_Tq.cI (c := (0 : Int32)) rfl (by decide +kernel) (fl_bo rfl) ?_
  refine fl_Tq.stp (pc' := 25) (lv' := [some (.inr (.inr (.inl (76, 277)))), some (.inl (0 : Int32))]) (st' := []) (m' := (r_goCells_f2 f ((f 280 2).toInt.toNat), l)) rfl rfl (fl_bo rfl) rfl ?_
  have hs25 : ∀ k : Nat, k < (f 280 2).toInt.toNat - 1 → fl_Tq (pw_P L xs) 218 25 [some (.inr (.inr (.inl (76, 277)))), some (.inl (Int32.ofNat (k + 1)))] [] (r_goCells_f25 f (k + 1), l) Q → fl_Tq (pw_P L xs) 218 25 [some (.inr (.inr (.inl (76, 277)))), some (.inl (Int32.ofNat k))] [] (r_goCells_f25 f k, l) Q := fun k hkn hS => r_goCells_b25_q hkn (by simp only [r_goCells_f25_w (k := k) (w := 2) (fun j hj => by omega) (fun j hj => by omega), r_goCells_f2_w (k := (f 280 2).toInt.toNat) (w := 2) (fun j hj => by omega) (fun j hj => by omega)]; exact (show ((((f 280 2).toInt.toNat - 1 : Nat)) : Int) = max ((f 280 2).toInt - 1) 0 by omega)) (by omega) hS
  refine t2_for (S := fun k => fl_Tq (pw_P L xs) 218 25 [some (.inr (.inr (.inl (76, 277)))), some (.inl (Int32.ofNat k))] [] (r_goCells_f25 f k, l) Q) hs25 ?_
  show fl_Tq (pw_P L xs) 218 25 [some (.inr (.inr (.inl (76, 277)))), some (.inl (Int32.ofNat ((f 280 2).toInt.toNat - 1)))] [] (r_goCells_f25 f ((f 280 2).toInt.toNat - 1), l) _
  refine fl_Tq.stp (pc' := 26) (lv' := [some (.inr (.inr (.inl (76, 277)))), some (.inl (Int32.ofNat ((f 280 2).toInt.toNat - 1)))]) (st' := [.inl (Int32.ofNat ((f 280 2).toInt.toNat - 1))]) (m' := (r_goCells_f25 f ((f 280 2).toInt.toNat - 1), l)) rfl rfl (fl_bo rfl) rfl ?_
  refine fl_Tq.cI (c := (1 : Int32)) rfl (by decide +kernel) (fl_bo rfl) ?_
  refine fl_Tq.stp (pc' := 28) (lv' := [some (.inr (.inr (.inl (76, 277)))), some (.inl (Int32.ofNat ((f 280 2).toInt.toNat - 1)))]) (st' := [.inl ((Int32.ofNat ((f 280 2).toInt.toNat - 1)) + (1 : Int32))]) (m' := (r_goCells_f25 f ((f 280 2).toInt.toNat - 1), l)) rfl rfl (fl_bo rfl) rfl ?_
  refine fl_Tq.stp (pc' := 29) (lv' := [some (.inr (.inr (.inl (76, 277)))), some (.inl (Int32.ofNat ((f 280 2).toInt.toNat - 1)))]) (st' := [.inr (.inr (.inl (76, 277))), .inl ((Int32.ofNat ((f 280 2).toInt.toNat - 1)) + (1 : Int32))]) (m' := (r_goCells_f25 f ((f 280 2).toInt.toNat - 1), l)) rfl rfl (fl_bo rfl) rfl ?_
  refine fl_Tq.stp (pc' := 32) (lv' := [some (.inr (.inr (.inl (76, 277)))), some (.inl (Int32.ofNat ((f 280 2).toInt.toNat - 1)))]) (st' := [.inr (.inr (.inl (79, 280))), .inl ((Int32.ofNat ((f 280 2).toInt.toNat - 1)) + (1 : Int32))]) (m' := (r_goCells_f25 f ((f 280 2).toInt.toNat - 1), l)) rfl rfl (fl_bo rfl) rfl ?_
  refine fl_Tq.cI (c := (2 : Int32)) rfl (by decide +kernel) (fl_bo rfl) ?_
  refine fl_Tq.ldV (p := 280) (τ := 79) (n := 29780) (z := (0, 0, 0)) (k := 2) (v := f 280 2) rfl (fl_bo rfl) rfl (by decide +kernel) (by decide) (by simp only [r_goCells_f25_w (k := (f 280 2).toInt.toNat - 1) (w := 2) (fun j hj => by omega) (fun j hj => by omega), r_goCells_f2_w (k := (f 280 2).toInt.toNat) (w := 2) (fun j hj => by omega) (fun j hj => by omega)]) ?_
  refine fl_Tq.jt rfl (fl_bo rfl) (c2_ge_t (by have e1 : (1 : Int32).toInt = 1 := (by decide +kernel); have e2 : (Int32.ofNat ((f 280 2).toInt.toNat - 1)).toInt = (((f 280 2).toInt.toNat - 1 : Nat) : Int) := at_ofN (by omega); rw [at_add32] <;> rw [e2, e1] <;> omega)) rfl ?_
  refine fl_Tq.cI (c := (0 : Int32)) rfl (by decide +kernel) (fl_bo rfl) ?_
  refine fl_Tq.stp (pc' := 50) (lv' := [some (.inr (.inr (.inl (76, 277)))), some (.inl (0 : Int32))]) (st' := []) (m' := (r_goCells_f25 f ((f 280 2).toInt.toNat - 1), l)) rfl rfl (fl_bo rfl) rfl ?_
  have hs50 : ∀ k : Nat, k < (f 280 2).toInt.toNat → fl_Tq (pw_P L xs) 218 50 [some (.inr (.inr (.inl (76, 277)))), some (.inl (Int32.ofNat (k + 1)))] [] (r_goCells_f50 f (k + 1), l) Q → fl_Tq (pw_P L xs) 218 50 [some (.inr (.inr (.inl (76, 277)))), some (.inl (Int32.ofNat k))] [] (r_goCells_f50 f k, l) Q := fun k hkn hS => r_goCells_b50_q hkn (by simp only [r_goCells_f50_w (k := k) (w := 2) (fun j hj => by omega) (fun j hj => by omega) (fun j hj => by omega) (fun j hj => by omega) (fun j hj => by omega), r_goCells_f25_w (k := (f 280 2).toInt.toNat - 1) (w := 2) (fun j hj => by omega) (fun j hj => by omega), r_goCells_f2_w (k := (f 280 2).toInt.toNat) (w := 2) (fun j hj => by omega) (fun j hj => by omega)]; exact (t2_nn hn.1)) (by omega) (by simp only [r_goCells_f50_w (k := k) (w := 58) (fun j hj => by omega) (fun j hj => by omega) (fun j hj => by omega) (fun j hj => by omega) (fun j hj => by omega), r_goCells_f25_w (k := (f 280 2).toInt.toNat - 1) (w := 58) (fun j hj => by omega) (fun j hj => by omega), r_goCells_f2_w (k := (f 280 2).toInt.toNat) (w := 58) (fun j hj => by omega) (fun j hj => by omega)]; exact hb) hS
  refine t2_for (S := fun k => fl_Tq (pw_P L xs) 218 50 [some (.inr (.inr (.inl (76, 277)))), some (.inl (Int32.ofNat k))] [] (r_goCells_f50 f k, l) Q) hs50 ?_
  show fl_Tq (pw_P L xs) 218 50 [some (.inr (.inr (.inl (76, 277)))), some (.inl (Int32.ofNat ((f 280 2).toInt.toNat)))] [] (r_goCells_f50 f ((f 280 2).toInt.toNat), l) _
  refine fl_Tq.stp (pc' := 51) (lv' := [some (.inr (.inr (.inl (76, 277)))), some (.inl (Int32.ofNat ((f 280 2).toInt.toNat)))]) (st' := [.inl (Int32.ofNat ((f 280 2).toInt.toNat))]) (m' := (r_goCells_f50 f ((f 280 2).toInt.toNat), l)) rfl rfl (fl_bo rfl) rfl ?_
  refine fl_Tq.stp (pc' := 52) (lv' := [some (.inr (.inr (.inl (76, 277)))), some (.inl (Int32.ofNat ((f 280 2).toInt.toNat)))]) (st' := [.inr (.inr (.inl (76, 277))), .inl (Int32.ofNat ((f 280 2).toInt.toNat))]) (m' := (r_goCells_f50 f ((f 280 2).toInt.toNat), l)) rfl rfl (fl_bo rfl) rfl ?_
  refine fl_Tq.stp (pc' := 55) (lv' := [some (.inr (.inr (.inl (76, 277)))), some (.inl (Int32.ofNat ((f 280 2).toInt.toNat)))]) (st' := [.inr (.inr (.inl (79, 280))), .inl (Int32.ofNat ((f 280 2).toInt.toNat))]) (m' := (r_goCells_f50 f ((f 280 2).toInt.toNat), l)) rfl rfl (fl_bo rfl) rfl ?_
  refine fl_Tq.cI (c := (2 : Int32)) rfl (by decide +kernel) (fl_bo rfl) ?_
  refine fl_Tq.ldV (p := 280) (τ := 79) (n := 29780) (z := (0, 0, 0)) (k := 2) (v := f 280 2) rfl (fl_bo rfl) rfl (by decide +kernel) (by decide) (by simp only [r_goCells_f50_w (k := (f 280 2).toInt.toNat) (w := 2) (fun j hj => by omega) (fun j hj => by omega) (fun j hj => by omega) (fun j hj => by omega) (fun j hj => by omega), r_goCells_f25_w (k := (f 280 2).toInt.toNat - 1) (w := 2) (fun j hj => by omega) (fun j hj => by omega), r_goCells_f2_w (k := (f 280 2).toInt.toNat) (w := 2) (fun j hj => by omega) (fun j hj => by omega)]) ?_
  refine fl_Tq.jt rfl (fl_bo rfl) (c2_ge_t (t2_ln (t2_nn hn.1))) rfl ?_
  exact fl_Tq.ret rfl rfl rfl k

end
