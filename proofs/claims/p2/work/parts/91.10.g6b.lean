theorem c0_worstCell_b {f : t2_F} {x : Int32} (k : Nat) : k ≤ 16 → ((c0_worstCell_a8 f x k).1).toInt = -1 ∨ (0 ≤ ((c0_worstCell_a8 f x k).1).toInt ∧ ((c0_worstCell_a8 f x k).1).toInt < k) := by
  induction k with
  | zero =>
    intro _
    left
    show (-1 : Int32).toInt = -1
    decide +kernel
  | succ k ih =>
    intro hk
    have ih := ih (by omega)
    have e : (Int32.ofNat k).toInt = k := at_ofN (by omega)
    unfold c0_worstCell_a8
    dsimp only
    repeat' split
    all_goals omega
theorem c0_worstCell_vb {f : t2_F} {x : Int32} (hc : 0 ≤ (f 1 5).toInt ∧ (f 1 5).toInt ≤ 16) : (c0_worstCell_v f x).toInt = -1 ∨ (0 ≤ (c0_worstCell_v f x).toInt ∧ (c0_worstCell_v f x).toInt < (f 1 5).toInt) := by
  have := c0_worstCell_b (f := f) (x := x) (f 1 5).toInt.toNat (by omega)
  unfold c0_worstCell_v
  omega
noncomputable def c0_limitOf_j18_0 (f : t2_F) (x : Int32) : Int32 := if (c0_worstCell_v f x).toInt = (-1 : Int32).toInt then f 4 4 else t2_min_v (f 4 4) (c0_ownLimit_v f ((c0_worstCell_v f x).toInt.toNat) x)
noncomputable def c0_limitOf_v (f : t2_F) (x : Int32) : Int32 := c0_limitOf_j18_0 f x
theorem c0_limitOf_q {L : Nat} {xs : Nat → Int32} {f : t2_F} {l : t2_L} {Q : Option fl_V → fl_M → Prop} {x : Int32} (hc : 0 ≤ (f 1 5).toInt ∧ (f 1 5).toInt ≤ 16) (hz : 0 ≤ (f 3 6).toInt ∧ (f 3 6).toInt ≤ 6) (k : Q (some (.inl (c0_limitOf_v f x))) (f, l)) : fl_Tq (pw_P L xs) 50 0 (fl_args (am_mxl (pw_P L xs) 50) [.inr (.inr (.inl (1, 1))), .inl x]) [] (f, l) Q := by
  refine fl_Tq.stp (pc' := 1) (lv' := [some (.inr (.inr (.inl (1, 1)))), some (.inl x), none, none]) (st' := [.inr (.inr (.inl (1, 1)))]) (m' := (f, l)) rfl rfl (fl_bo rfl) rfl ?_
  refine fl_Tq.stp (pc' := 4) (lv' := [some (.inr (.inr (.inl (1, 1)))), some (.inl x), none, none]) (st' := [.inr (.inr (.inl (3, 3)))]) (m' := (f, l)) rfl rfl (fl_bo rfl) rfl ?_
  refine fl_Tq.stp (pc' := 7) (lv' := [some (.inr (.inr (.inl (1, 1)))), some (.inl x), none, none]) (st' := [.inr (.inr (.inl (4, 4)))]) (m' := (f, l)) rfl rfl (fl_bo rfl) rfl ?_
  refine fl_Tq.cI (c := (4 : Int32)) rfl (by decide +kernel) (fl_bo rfl) ?_
  refine fl_Tq.ldV (p := 4) (τ := 4) (n := 30) (z := (0, 0, 0)) (k := 4) (v := f 4 4) rfl (fl_bo rfl) rfl (by decide +kernel) (by decide) rfl ?_
  refine fl_Tq.stp (pc' := 10) (lv' := [some (.inr (.inr (.inl (1, 1)))), some (.inl x), some (.inl (f 4 4)), none]) (st' := []) (m' := (f, l)) rfl rfl (fl_bo rfl) rfl ?_
  refine fl_Tq.stp (pc' := 11) (lv' := [some (.inr (.inr (.inl (1, 1)))), some (.inl x), some (.inl (f 4 4)), none]) (st' := [.inr (.inr (.inl (1, 1)))]) (m' := (f, l)) rfl rfl (fl_bo rfl) rfl ?_
  refine fl_Tq.stp (pc' := 12) (lv' := [some (.inr (.inr (.inl (1, 1)))), some (.inl x), some (.inl (f 4 4)), none]) (st' := [.inl x, .inr (.inr (.inl (1, 1)))]) (m' := (f, l)) rfl rfl (fl_bo rfl) rfl ?_
  refine fl_Tq.cal rfl rfl (fl_bo rfl) rfl ?_
  refine c0_worstCell_q hc hz ?_
  show fl_Tq _ 50 15 [some (.inr (.inr (.inl (1, 1)))), some (.inl x), some (.inl (f 4 4)), none] [.inl (c0_worstCell_v f x)] (f, l) _
  refine fl_Tq.stp (pc' := 16) (lv' := [some (.inr (.inr (.inl (1, 1)))), some (.inl x), some (.inl (f 4 4)), some (.inl (c0_worstCell_v f x))]) (st' := []) (m' := (f, l)) rfl rfl (fl_bo rfl) rfl ?_
  refine fl_Tq.stp (pc' := 17) (lv' := [some (.inr (.inr (.inl (1, 1)))), some (.inl x), some (.inl (f 4 4)), some (.inl (c0_worstCell_v f x))]) (st' := [.inl (c0_worstCell_v f x)]) (m' := (f, l)) rfl rfl (fl_bo rfl) rfl ?_
  refine fl_Tq.cI (c := (-1 : Int32)) rfl (by decide +kernel) (fl_bo rfl) ?_
  have hj52 : fl_Tq (pw_P L xs) 50 43 [some (.inr (.inr (.inl (1, 1)))), some (.inl x), some (.inl (f 4 4)), some (.inl (c0_worstCell_v f x))] [.inl (c0_limitOf_j18_0 f x)] (f, l) Q → fl_Tq (pw_P L xs) 50 18 [some (.inr (.inr (.inl (1, 1)))), some (.inl x), some (.inl (f 4 4)), some (.inl (c0_worstCell_v f x))] [.inl (-1 : Int32), .inl (c0_worstCell_v f x)] (f, l) Q := by
    intro hJ
    by_cases h1 : (c0_worstCell_v f x).toInt = (-1 : Int32).toInt
    · refine fl_Tq.jf rfl (fl_bo rfl) (c2_ne_f h1) rfl ?_
      refine fl_Tq.stp (pc' := 22) (lv' := [some (.inr (.inr (.inl (1, 1)))), some (.inl x), some (.inl (f 4 4)), some (.inl (c0_worstCell_v f x))]) (st' := [.inl (f 4 4)]) (m' := (f, l)) rfl rfl (fl_bo rfl) rfl ?_
      refine fl_Tq.stp (pc' := 43) (lv' := [some (.inr (.inr (.inl (1, 1)))), some (.inl x), some (.inl (f 4 4)), some (.inl (c0_worstCell_v f x))]) (st' := [.inl (f 4 4)]) (m' := (f, l)) rfl rfl (fl_bo rfl) rfl ?_
      have e0 : (c0_limitOf_j18_0 f x) = f 4 4 := by simp only [c0_limitOf_j18_0, if_pos h1]
      rw [e0] at hJ
      exact hJ
    · refine fl_Tq.jt rfl (fl_bo rfl) (c2_ne_t h1) rfl ?_
      refine fl_Tq.stp (pc' := 26) (lv' := [some (.inr (.inr (.inl (1, 1)))), some (.inl x), some (.inl (f 4 4)), some (.inl (c0_worstCell_v f x))]) (st' := [.inl (f 4 4)]) (m' := (f, l)) rfl rfl (fl_bo rfl) rfl ?_
      refine fl_Tq.stp (pc' := 27) (lv' := [some (.inr (.inr (.inl (1, 1)))), some (.inl x), some (.inl (f 4 4)), some (.inl (c0_worstCell_v f x))]) (st' := [.inr (.inr (.inl (1, 1))), .inl (f 4 4)]) (m' := (f, l)) rfl rfl (fl_bo rfl) rfl ?_
      refine fl_Tq.stp (pc' := 30) (lv' := [some (.inr (.inr (.inl (1, 1)))), some (.inl x), some (.inl (f 4 4)), some (.inl (c0_worstCell_v f x))]) (st' := [.inr (.inr (.inl (2, 2))), .inl (f 4 4)]) (m' := (f, l)) rfl rfl (fl_bo rfl) rfl ?_
      refine fl_Tq.stp (pc' := 31) (lv' := [some (.inr (.inr (.inl (1, 1)))), some (.inl x), some (.inl (f 4 4)), some (.inl (c0_worstCell_v f x))]) (st' := [.inl (c0_worstCell_v f x), .inr (.inr (.inl (2, 2))), .inl (f 4 4)]) (m' := (f, l)) rfl rfl (fl_bo rfl) rfl ?_
      refine fl_Tq.qld (p := 2) (τ := 2) (n := 16) (t := 18) (b := 16) (d := 3) (k := (c0_worstCell_v f x).toInt.toNat) rfl (fl_bo rfl) rfl (t2_nn (by have e1 : (-1 : Int32).toInt = -1 := (by decide +kernel); have := c0_worstCell_vb (f := f) (x := x) hc; omega)) (by have e1 : (-1 : Int32).toInt = -1 := (by decide +kernel); have h16 := hc; have := c0_worstCell_vb (f := f) (x := x) hc; omega) ?_
      show fl_Tq _ 50 32 [some (.inr (.inr (.inl (1, 1)))), some (.inl x), some (.inl (f 4 4)), some (.inl (c0_worstCell_v f x))] [.inr (.inr (.inl (18, 18 + 4 * ((c0_worstCell_v f x).toInt.toNat)))), .inl (f 4 4)] (f, l) _
      refine fl_Tq.stp (pc' := 33) (lv' := [some (.inr (.inr (.inl (1, 1)))), some (.inl x), some (.inl (f 4 4)), some (.inl (c0_worstCell_v f x))]) (st' := [.inl x, .inr (.inr (.inl (18, 18 + 4 * ((c0_worstCell_v f x).toInt.toNat)))), .inl (f 4 4)]) (m' := (f, l)) rfl rfl (fl_oks_ok ⟨(t2_kc0 (by have e1 : (-1 : Int32).toInt = -1 := (by decide +kernel); have h16 := hc; have := c0_worstCell_vb (f := f) (x := x) hc; omega)), True.intro, True.intro⟩) rfl ?_
      refine fl_Tq.stp (pc' := 34) (lv' := [some (.inr (.inr (.inl (1, 1)))), some (.inl x), some (.inl (f 4 4)), some (.inl (c0_worstCell_v f x))]) (st' := [.inr (.inr (.inl (1, 1))), .inl x, .inr (.inr (.inl (18, 18 + 4 * ((c0_worstCell_v f x).toInt.toNat)))), .inl (f 4 4)]) (m' := (f, l)) rfl rfl (fl_oks_ok ⟨True.intro, (t2_kc0 (by have e1 : (-1 : Int32).toInt = -1 := (by decide +kernel); have h16 := hc; have := c0_worstCell_vb (f := f) (x := x) hc; omega)), True.intro, True.intro⟩) rfl ?_
      refine fl_Tq.stp (pc' := 37) (lv' := [some (.inr (.inr (.inl (1, 1)))), some (.inl x), some (.inl (f 4 4)), some (.inl (c0_worstCell_v f x))]) (st' := [.inr (.inr (.inl (3, 3))), .inl x, .inr (.inr (.inl (18, 18 + 4 * ((c0_worstCell_v f x).toInt.toNat)))), .inl (f 4 4)]) (m' := (f, l)) rfl rfl (fl_oks_ok ⟨fl_okp (by decide +kernel) (by decide), True.intro, (t2_kc0 (by have e1 : (-1 : Int32).toInt = -1 := (by decide +kernel); have h16 := hc; have := c0_worstCell_vb (f := f) (x := x) hc; omega)), True.intro, True.intro⟩) rfl ?_
      refine fl_Tq.cal rfl rfl (fl_oks_ok ⟨fl_okp (by decide +kernel) (by decide), True.intro, (t2_kc0 (by have e1 : (-1 : Int32).toInt = -1 := (by decide +kernel); have h16 := hc; have := c0_worstCell_vb (f := f) (x := x) hc; omega)), True.intro, True.intro⟩) rfl ?_
      refine c0_ownLimit_q (by have e1 : (-1 : Int32).toInt = -1 := (by decide +kernel); have hq := hc; have := c0_worstCell_vb (f := f) (x := x) hc; omega) hz ?_
      show fl_Tq _ 50 40 [some (.inr (.inr (.inl (1, 1)))), some (.inl x), some (.inl (f 4 4)), some (.inl (c0_worstCell_v f x))] [.inl (c0_ownLimit_v f ((c0_worstCell_v f x).toInt.toNat) x), .inl (f 4 4)] (f, l) _
      refine fl_Tq.cal rfl rfl (fl_bo rfl) rfl ?_
      refine t2_min_q  ?_
      show fl_Tq _ 50 43 [some (.inr (.inr (.inl (1, 1)))), some (.inl x), some (.inl (f 4 4)), some (.inl (c0_worstCell_v f x))] [.inl (t2_min_v (f 4 4) (c0_ownLimit_v f ((c0_worstCell_v f x).toInt.toNat) x))] (f, l) _
      have e0 : (c0_limitOf_j18_0 f x) = t2_min_v (f 4 4) (c0_ownLimit_v f ((c0_worstCell_v f x).toInt.toNat) x) := by simp only [c0_limitOf_j18_0, if_neg h1]
      rw [e0] at hJ
      exact hJ
  refine hj52 ?_
  show fl_Tq _ 50 43 [some (.inr (.inr (.inl (1, 1)))), some (.inl x), some (.inl (f 4 4)), some (.inl (c0_worstCell_v f x))] [.inl (c0_limitOf_j18_0 f x)] (f, l) _
  exact fl_Tq.ret rfl rfl rfl k
noncomputable def c0_countHeldBack_j8_0 (f : t2_F) (x : Int32) : Int32 := if (c0_worstCell_v f x).toInt = (-1 : Int32).toInt then f (18 + 4 * ((c0_worstCell_v f x).toInt.toNat)) 18 else (if (f 4 4).toInt < (c0_ownLimit_v f ((c0_worstCell_v f x).toInt.toNat) x).toInt then f (18 + 4 * ((c0_worstCell_v f x).toInt.toNat)) 18 else (f (18 + 4 * ((c0_worstCell_v f x).toInt.toNat)) 18) + (1 : Int32))
noncomputable def c0_countHeldBack_m (f : t2_F) (x : Int32) : t2_F := fl_row f (18 + 4 * ((c0_worstCell_v f x).toInt.toNat)) (upd (f (18 + 4 * ((c0_worstCell_v f x).toInt.toNat))) 18 (c0_countHeldBack_j8_0 f x))
theorem c0_countHeldBack_fr {f : t2_F} {x : Int32} {p : Nat} (e0 : p ≠ 18 + 4 * ((c0_worstCell_v f x).toInt.toNat)) : c0_countHeldBack_m f x p = f p := by
  unfold c0_countHeldBack_m
  repeat' split
  all_goals first | rfl | simp only [fl_row_ne e0]
theorem c0_countHeldBack_q {L : Nat} {xs : Nat → Int32} {f : t2_F} {l : t2_L} {Q : Option fl_V → fl_M → Prop} {x : Int32} (hc : 0 ≤ (f 1 5).toInt ∧ (f 1 5).toInt ≤ 16) (hz : 0 ≤ (f 3 6).toInt ∧ (f 3 6).toInt ≤ 6) (k : Q none (c0_countHeldBack_m f x, l)) : fl_Tq (pw_P L xs) 60 0 (fl_args (am_mxl (pw_P L xs) 60) [.inr (.inr (.inl (1, 1))), .inl x]) [] (f, l) Q := by
  refine fl_Tq.stp (pc' := 1) (lv' := [some (.inr (.inr (.inl (1, 1)))), some (.inl x), none]) (st' := [.inr (.inr (.inl (1, 1)))]) (m' := (f, l)) rfl rfl (fl_bo rfl) rfl ?_
  refine fl_Tq.stp (pc' := 2) (lv' := [some (.inr (.inr (.inl (1, 1)))), some (.inl x), none]) (st' := [.inl x, .inr (.inr (.inl (1, 1)))]) (m' := (f, l)) rfl rfl (fl_bo rfl) rfl ?_
  refine fl_Tq.cal rfl rfl (fl_bo rfl) rfl ?_
  refine c0_worstCell_q hc hz ?_
  show fl_Tq _ 60 5 [some (.inr (.inr (.inl (1, 1)))), some (.inl x), none] [.inl (c0_worstCell_v f x)] (f, l) _
  refine fl_Tq.stp (pc' := 6) (lv' := [some (.inr (.inr (.inl (1, 1)))), some (.inl x), some (.inl (c0_worstCell_v f x))]) (st' := []) (m' := (f, l)) rfl rfl (fl_bo rfl) rfl ?_
  refine fl_Tq.stp (pc' := 7) (lv' := [some (.inr (.inr (.inl (1, 1)))), some (.inl x), some (.inl (c0_worstCell_v f x))]) (st' := [.inl (c0_worstCell_v f x)]) (m' := (f, l)) rfl rfl (fl_bo rfl) rfl ?_
  refine fl_Tq.cI (c := (-1 : Int32)) rfl (by decide +kernel) (fl_bo rfl) ?_
  have hj53 : fl_Tq (pw_P L xs) 60 52 [some (.inr (.inr (.inl (1, 1)))), some (.inl x), some (.inl (c0_worstCell_v f x))] [] (fl_row f (18 + 4 * ((c0_worstCell_v f x).toInt.toNat)) (upd (f (18 + 4 * ((c0_worstCell_v f x).toInt.toNat))) 18 (c0_countHeldBack_j8_0 f x)), l) Q → fl_Tq (pw_P L xs) 60 8 [some (.inr (.inr (.inl (1, 1)))), some (.inl x), some (.inl (c0_worstCell_v f x))] [.inl (-1 : Int32), .inl (c0_worstCell_v f x)] (f, l) Q := by
    intro hJ
    by_cases h1 : (c0_worstCell_v f x).toInt = (-1 : Int32).toInt
    · refine fl_Tq.jt rfl (fl_bo rfl) (c2_eq_t h1) rfl ?_
      have e0 : (fl_row f (18 + 4 * ((c0_worstCell_v f x).toInt.toNat)) (upd (f (18 + 4 * ((c0_worstCell_v f x).toInt.toNat))) 18 (c0_countHeldBack_j8_0 f x))) = f := by
        simp only [c0_countHeldBack_j8_0, if_pos h1]
        funext q j
        simp only [fl_row, upd]
        repeat' split
        all_goals first | rfl | simp_all
      rw [e0] at hJ
      exact hJ
    · refine fl_Tq.jf rfl (fl_bo rfl) (c2_eq_f h1) rfl ?_
      refine fl_Tq.stp (pc' := 12) (lv' := [some (.inr (.inr (.inl (1, 1)))), some (.inl x), some (.inl (c0_worstCell_v f x))]) (st' := [.inr (.inr (.inl (1, 1)))]) (m' := (f, l)) rfl rfl (fl_bo rfl) rfl ?_
      refine fl_Tq.stp (pc' := 15) (lv' := [some (.inr (.inr (.inl (1, 1)))), some (.inl x), some (.inl (c0_worstCell_v f x))]) (st' := [.inr (.inr (.inl (2, 2)))]) (m' := (f, l)) rfl rfl (fl_bo rfl) rfl ?_
      refine fl_Tq.stp (pc' := 16) (lv' := [some (.inr (.inr (.inl (1, 1)))), some (.inl x), some (.inl (c0_worstCell_v f x))]) (st' := [.inl (c0_worstCell_v f x), .inr (.inr (.inl (2, 2)))]) (m' := (f, l)) rfl rfl (fl_bo rfl) rfl ?_
      refine fl_Tq.qld (p := 2) (τ := 2) (n := 16) (t := 18) (b := 16) (d := 3) (k := (c0_worstCell_v f x).toInt.toNat) rfl (fl_bo rfl) rfl (t2_nn (by have e1 : (-1 : Int32).toInt = -1 := (by decide +kernel); have := c0_worstCell_vb (f := f) (x := x) hc; omega)) (by have e1 : (-1 : Int32).toInt = -1 := (by decide +kernel); have h16 := hc; have := c0_worstCell_vb (f := f) (x := x) hc; omega) ?_
      show fl_Tq _ 60 17 [some (.inr (.inr (.inl (1, 1)))), some (.inl x), some (.inl (c0_worstCell_v f x))] [.inr (.inr (.inl (18, 18 + 4 * ((c0_worstCell_v f x).toInt.toNat))))] (f, l) _
      refine fl_Tq.stp (pc' := 18) (lv' := [some (.inr (.inr (.inl (1, 1)))), some (.inl x), some (.inl (c0_worstCell_v f x))]) (st' := [.inl x, .inr (.inr (.inl (18, 18 + 4 * ((c0_worstCell_v f x).toInt.toNat))))]) (m' := (f, l)) rfl rfl (fl_oks_ok ⟨(t2_kc0 (by have e1 : (-1 : Int32).toInt = -1 := (by decide +kernel); have h16 := hc; have := c0_worstCell_vb (f := f) (x := x) hc; omega)), True.intro⟩) rfl ?_
      refine fl_Tq.stp (pc' := 19) (lv' := [some (.inr (.inr (.inl (1, 1)))), some (.inl x), some (.inl (c0_worstCell_v f x))]) (st' := [.inr (.inr (.inl (1, 1))), .inl x, .inr (.inr (.inl (18, 18 + 4 * ((c0_worstCell_v f x).toInt.toNat))))]) (m' := (f, l)) rfl rfl (fl_oks_ok ⟨True.intro, (t2_kc0 (by have e1 : (-1 : Int32).toInt = -1 := (by decide +kernel); have h16 := hc; have := c0_worstCell_vb (f := f) (x := x) hc; omega)), True.intro⟩) rfl ?_
      refine fl_Tq.stp (pc' := 22) (lv' := [some (.inr (.inr (.inl (1, 1)))), some (.inl x), some (.inl (c0_worstCell_v f x))]) (st' := [.inr (.inr (.inl (3, 3))), .inl x, .inr (.inr (.inl (18, 18 + 4 * ((c0_worstCell_v f x).toInt.toNat))))]) (m' := (f, l)) rfl rfl (fl_oks_ok ⟨fl_okp (by decide +kernel) (by decide), True.intro, (t2_kc0 (by have e1 : (-1 : Int32).toInt = -1 := (by decide +kernel); have h16 := hc; have := c0_worstCell_vb (f := f) (x := x) hc; omega)), True.intro⟩) rfl ?_
      refine fl_Tq.cal rfl rfl (fl_oks_ok ⟨fl_okp (by decide +kernel) (by decide), True.intro, (t2_kc0 (by have e1 : (-1 : Int32).toInt = -1 := (by decide +kernel); have h16 := hc; have := c0_worstCell_vb (f := f) (x := x) hc; omega)), True.intro⟩) rfl ?_
      refine c0_ownLimit_q (by have e1 : (-1 : Int32).toInt = -1 := (by decide +kernel); have hq := hc; have := c0_worstCell_vb (f := f) (x := x) hc; omega) hz ?_
      show fl_Tq _ 60 25 [some (.inr (.inr (.inl (1, 1)))), some (.inl x), some (.inl (c0_worstCell_v f x))] [.inl (c0_ownLimit_v f ((c0_worstCell_v f x).toInt.toNat) x)] (f, l) _
      refine fl_Tq.stp (pc' := 26) (lv' := [some (.inr (.inr (.inl (1, 1)))), some (.inl x), some (.inl (c0_worstCell_v f x))]) (st' := [.inr (.inr (.inl (1, 1))), .inl (c0_ownLimit_v f ((c0_worstCell_v f x).toInt.toNat) x)]) (m' := (f, l)) rfl rfl (fl_bo rfl) rfl ?_
      refine fl_Tq.stp (pc' := 29) (lv' := [some (.inr (.inr (.inl (1, 1)))), some (.inl x), some (.inl (c0_worstCell_v f x))]) (st' := [.inr (.inr (.inl (3, 3))), .inl (c0_ownLimit_v f ((c0_worstCell_v f x).toInt.toNat) x)]) (m' := (f, l)) rfl rfl (fl_bo rfl) rfl ?_
      refine fl_Tq.stp (pc' := 32) (lv' := [some (.inr (.inr (.inl (1, 1)))), some (.inl x), some (.inl (c0_worstCell_v f x))]) (st' := [.inr (.inr (.inl (4, 4))), .inl (c0_ownLimit_v f ((c0_worstCell_v f x).toInt.toNat) x)]) (m' := (f, l)) rfl rfl (fl_bo rfl) rfl ?_
      refine fl_Tq.cI (c := (4 : Int32)) rfl (by decide +kernel) (fl_bo rfl) ?_
      refine fl_Tq.ldV (p := 4) (τ := 4) (n := 30) (z := (0, 0, 0)) (k := 4) (v := f 4 4) rfl (fl_bo rfl) rfl (by decide +kernel) (by decide) rfl ?_
      by_cases h2 : (f 4 4).toInt < (c0_ownLimit_v f ((c0_worstCell_v f x).toInt.toNat) x).toInt
      · refine fl_Tq.jt rfl (fl_bo rfl) (c2_gt_t h2) rfl ?_
        have e0 : (fl_row f (18 + 4 * ((c0_worstCell_v f x).toInt.toNat)) (upd (f (18 + 4 * ((c0_worstCell_v f x).toInt.toNat))) 18 (c0_countHeldBack_j8_0 f x))) = f := by
          simp only [c0_countHeldBack_j8_0, if_neg h1, if_pos h2]
          funext q j
          simp only [fl_row, upd]
          repeat' split
          all_goals first | rfl | simp_all
        rw [e0] at hJ
        exact hJ
      · refine fl_Tq.jf rfl (fl_bo rfl) (c2_gt_f h2) rfl ?_
        refine fl_Tq.stp (pc' := 38) (lv' := [some (.inr (.inr (.inl (1, 1)))), some (.inl x), some (.inl (c0_worstCell_v f x))]) (st' := [.inr (.inr (.inl (1, 1)))]) (m' := (f, l)) rfl rfl (fl_bo rfl) rfl ?_
        refine fl_Tq.stp (pc' := 41) (lv' := [some (.inr (.inr (.inl (1, 1)))), some (.inl x), some (.inl (c0_worstCell_v f x))]) (st' := [.inr (.inr (.inl (2, 2)))]) (m' := (f, l)) rfl rfl (fl_bo rfl) rfl ?_
        refine fl_Tq.stp (pc' := 42) (lv' := [some (.inr (.inr (.inl (1, 1)))), some (.inl x), some (.inl (c0_worstCell_v f x))]) (st' := [.inl (c0_worstCell_v f x), .inr (.inr (.inl (2, 2)))]) (m' := (f, l)) rfl rfl (fl_bo rfl) rfl ?_
        refine fl_Tq.qld (p := 2) (τ := 2) (n := 16) (t := 18) (b := 16) (d := 3) (k := (c0_worstCell_v f x).toInt.toNat) rfl (fl_bo rfl) rfl (t2_nn (by have e1 : (-1 : Int32).toInt = -1 := (by decide +kernel); have := c0_worstCell_vb (f := f) (x := x) hc; omega)) (by have e1 : (-1 : Int32).toInt = -1 := (by decide +kernel); have h16 := hc; have := c0_worstCell_vb (f := f) (x := x) hc; omega) ?_
        show fl_Tq _ 60 43 [some (.inr (.inr (.inl (1, 1)))), some (.inl x), some (.inl (c0_worstCell_v f x))] [.inr (.inr (.inl (18, 18 + 4 * ((c0_worstCell_v f x).toInt.toNat))))] (f, l) _
        refine fl_Tq.stp (pc' := 44) (lv' := [some (.inr (.inr (.inl (1, 1)))), some (.inl x), some (.inl (c0_worstCell_v f x))]) (st' := [.inr (.inr (.inl (18, 18 + 4 * ((c0_worstCell_v f x).toInt.toNat)))), .inr (.inr (.inl (18, 18 + 4 * ((c0_worstCell_v f x).toInt.toNat))))]) (m' := (f, l)) rfl rfl (fl_oks_ok ⟨(t2_kc0 (by have e1 : (-1 : Int32).toInt = -1 := (by decide +kernel); have h16 := hc; have := c0_worstCell_vb (f := f) (x := x) hc; omega)), True.intro⟩) rfl ?_
        refine fl_Tq.gfV (k := 18) (v := f (18 + 4 * ((c0_worstCell_v f x).toInt.toNat)) 18) rfl (fl_oks_ok ⟨(t2_kc0 (by have e1 : (-1 : Int32).toInt = -1 := (by decide +kernel); have h16 := hc; have := c0_worstCell_vb (f := f) (x := x) hc; omega)), (t2_kc0 (by have e1 : (-1 : Int32).toInt = -1 := (by decide +kernel); have h16 := hc; have := c0_worstCell_vb (f := f) (x := x) hc; omega)), True.intro⟩) rfl rfl ?_
        refine fl_Tq.cI (c := (1 : Int32)) rfl (by decide +kernel) (fl_oks_ok ⟨True.intro, (t2_kc0 (by have e1 : (-1 : Int32).toInt = -1 := (by decide +kernel); have h16 := hc; have := c0_worstCell_vb (f := f) (x := x) hc; omega)), True.intro⟩) ?_
        refine fl_Tq.stp (pc' := 49) (lv' := [some (.inr (.inr (.inl (1, 1)))), some (.inl x), some (.inl (c0_worstCell_v f x))]) (st' := [.inl ((f (18 + 4 * ((c0_worstCell_v f x).toInt.toNat)) 18) + (1 : Int32)), .inr (.inr (.inl (18, 18 + 4 * ((c0_worstCell_v f x).toInt.toNat))))]) (m' := (f, l)) rfl rfl (fl_oks_ok ⟨True.intro, True.intro, (t2_kc0 (by have e1 : (-1 : Int32).toInt = -1 := (by decide +kernel); have h16 := hc; have := c0_worstCell_vb (f := f) (x := x) hc; omega)), True.intro⟩) rfl ?_
        refine fl_Tq.pfV (k := 18) (m' := (fl_row f (18 + 4 * ((c0_worstCell_v f x).toInt.toNat)) (upd (f (18 + 4 * ((c0_worstCell_v f x).toInt.toNat))) 18 ((f (18 + 4 * ((c0_worstCell_v f x).toInt.toNat)) 18) + (1 : Int32))), l)) rfl (fl_oks_ok ⟨True.intro, (t2_kc0 (by have e1 : (-1 : Int32).toInt = -1 := (by decide +kernel); have h16 := hc; have := c0_worstCell_vb (f := f) (x := x) hc; omega)), True.intro⟩) rfl (t2_upn rfl) ?_
        have e0 : (fl_row f (18 + 4 * ((c0_worstCell_v f x).toInt.toNat)) (upd (f (18 + 4 * ((c0_worstCell_v f x).toInt.toNat))) 18 (c0_countHeldBack_j8_0 f x))) = fl_row f (18 + 4 * ((c0_worstCell_v f x).toInt.toNat)) (upd (f (18 + 4 * ((c0_worstCell_v f x).toInt.toNat))) 18 ((f (18 + 4 * ((c0_worstCell_v f x).toInt.toNat)) 18) + (1 : Int32))) := by
          simp only [c0_countHeldBack_j8_0, if_neg h1, if_neg h2]
        rw [e0] at hJ
        exact hJ
  refine hj53 ?_
  show fl_Tq _ 60 52 [some (.inr (.inr (.inl (1, 1)))), some (.inl x), some (.inl (c0_worstCell_v f x))] [] (fl_row f (18 + 4 * ((c0_worstCell_v f x).toInt.toNat)) (upd (f (18 + 4 * ((c0_worstCell_v f x).toInt.toNat))) 18 (c0_countHeldBack_j8_0 f x)), l) _
  exact fl_Tq.ret rfl rfl rfl k
noncomputable def c0_letCurrent_j26_0 (f : t2_F)  : Int32 := if (f 4 20).toInt < 0 then (1 : Int32) else (0 : Int32)
noncomputable def c0_letCurrent_m (f : t2_F) : t2_F := if (c0_areActual_v (fl_row f 1 (upd (f 1) 9 (0 : Int32))) (5 : Int32)).toInt = 0 then fl_row f 1 (upd (f 1) 9 (0 : Int32)) else (if (t2_heldTo_v (f 4 20) (-(c0_limitOf_v (fl_row f 1 (upd (f 1) 9 (0 : Int32))) (c0_letCurrent_j26_0 f))) (c0_limitOf_v (fl_row f 1 (upd (f 1) 9 (0 : Int32))) (c0_letCurrent_j26_0 f))).toInt = (f 4 20).toInt then fl_row f 1 (upd (f 1) 9 (t2_heldTo_v (f 4 20) (-(c0_limitOf_v (fl_row f 1 (upd (f 1) 9 (0 : Int32))) (c0_letCurrent_j26_0 f))) (c0_limitOf_v (fl_row f 1 (upd (f 1) 9 (0 : Int32))) (c0_letCurrent_j26_0 f)))) else c0_countHeldBack_m (fl_row f 1 (upd (f 1) 9 (t2_heldTo_v (f 4 20) (-(c0_limitOf_v (fl_row f 1 (upd (f 1) 9 (0 : Int32))) (c0_letCurrent_j26_0 f))) (c0_limitOf_v (fl_row f 1 (upd (f 1) 9 (0 : Int32))) (c0_letCurrent_j26_0 f))))) (c0_letCurrent_j26_0 f))
theorem c0_letCurrent_fr {f : t2_F}  {p : Nat} (e0 : p ≠ 1) (e1 : p ≠ 18 + 4 * ((c0_worstCell_v (fl_row f 1 (upd (f 1) 9 (t2_heldTo_v (f 4 20) (-(c0_limitOf_v (fl_row f 1 (upd (f 1) 9 (0 : Int32))) (c0_letCurrent_j26_0 f))) (c0_limitOf_v (fl_row f 1 (upd (f 1) 9 (0 : Int32))) (c0_letCurrent_j26_0 f))))) (c0_letCurrent_j26_0 f)).toInt.toNat)) : c0_letCurrent_m f p = f p := by
  unfold c0_letCurrent_m
  repeat' split
  all_goals first | rfl | (simp only [fl_row_ne e0, fl_row_ne e1, c0_countHeldBack_fr e1]; done) | (simp only [fl_row_ne e0, fl_row_ne e1, c0_countHeldBack_fr e1]; split <;> simp only [fl_row_ne e0, fl_row_ne e1, c0_countHeldBack_fr e1])
theorem c0_letCurrent_q {L : Nat} {xs : Nat → Int32} {f : t2_F} {l : t2_L} {Q : Option fl_V → fl_M → Prop}  (hc : 0 ≤ (f 1 5).toInt ∧ (f 1 5).toInt ≤ 16) (hz : 0 ≤ (f 3 6).toInt ∧ (f 3 6).toInt ≤ 6) (k : Q none (c0_letCurrent_m f, l)) : fl_Tq (pw_P L xs) 59 0 (fl_args (am_mxl (pw_P L xs) 59) [.inr (.inr (.inl (1, 1)))]) [] (f, l) Q := by
  refine fl_Tq.stp (pc' := 1) (lv' := [some (.inr (.inr (.inl (1, 1)))), none, none, none]) (st' := [.inr (.inr (.inl (1, 1)))]) (m' := (f, l)) rfl rfl (fl_bo rfl) rfl ?_
  refine fl_Tq.cI (c := (0 : Int32)) rfl (by decide +kernel) (fl_bo rfl) ?_
  refine fl_Tq.pfV (k := 9) (m' := (fl_row f 1 (upd (f 1) 9 (0 : Int32)), l)) rfl (fl_bo rfl) rfl (t2_upn rfl) ?_
  refine fl_Tq.stp (pc' := 6) (lv' := [some (.inr (.inr (.inl (1, 1)))), none, none, none]) (st' := [.inr (.inr (.inl (1, 1)))]) (m' := (fl_row f 1 (upd (f 1) 9 (0 : Int32)), l)) rfl rfl (fl_bo rfl) rfl ?_
  refine fl_Tq.cI (c := (5 : Int32)) rfl (by decide +kernel) (fl_bo rfl) ?_
  refine fl_Tq.cal rfl rfl (fl_bo rfl) rfl ?_
  refine c0_areActual_q  ?_
  show fl_Tq _ 59 10 [some (.inr (.inr (.inl (1, 1)))), none, none, none] [.inl (c0_areActual_v (fl_row f 1 (upd (f 1) 9 (0 : Int32))) (5 : Int32))] (fl_row f 1 (upd (f 1) 9 (0 : Int32)), l) _
  by_cases h1 : (c0_areActual_v (fl_row f 1 (upd (f 1) 9 (0 : Int32))) (5 : Int32)).toInt = 0
  · refine fl_Tq.zf rfl (fl_bo rfl) (c1_ne_f h1) rfl ?_
    refine fl_Tq.ret rfl rfl rfl ?_
    unfold c0_letCurrent_m at k
    simp only [if_pos h1] at k
    exact k
  · refine fl_Tq.zt rfl (fl_bo rfl) (c1_ne_t h1) rfl ?_
    refine fl_Tq.stp (pc' := 15) (lv' := [some (.inr (.inr (.inl (1, 1)))), none, none, none]) (st' := [.inr (.inr (.inl (1, 1)))]) (m' := (fl_row f 1 (upd (f 1) 9 (0 : Int32)), l)) rfl rfl (fl_bo rfl) rfl ?_
    refine fl_Tq.stp (pc' := 18) (lv' := [some (.inr (.inr (.inl (1, 1)))), none, none, none]) (st' := [.inr (.inr (.inl (3, 3)))]) (m' := (fl_row f 1 (upd (f 1) 9 (0 : Int32)), l)) rfl rfl (fl_bo rfl) rfl ?_
    refine fl_Tq.stp (pc' := 21) (lv' := [some (.inr (.inr (.inl (1, 1)))), none, none, none]) (st' := [.inr (.inr (.inl (4, 4)))]) (m' := (fl_row f 1 (upd (f 1) 9 (0 : Int32)), l)) rfl rfl (fl_bo rfl) rfl ?_
    refine fl_Tq.cB (c := (20 : Int32)) rfl (by decide +kernel) (fl_bo rfl) ?_
    refine fl_Tq.ldV (p := 4) (τ := 4) (n := 30) (z := (0, 0, 0)) (k := 20) (v := f 4 20) rfl (fl_bo rfl) rfl (by decide +kernel) (by decide) (by simp only [fl_row_ne (by decide : 4 ≠ 1)]) ?_
    refine fl_Tq.stp (pc' := 25) (lv' := [some (.inr (.inr (.inl (1, 1)))), some (.inl (f 4 20)), none, none]) (st' := []) (m' := (fl_row f 1 (upd (f 1) 9 (0 : Int32)), l)) rfl rfl (fl_bo rfl) rfl ?_
    refine fl_Tq.stp (pc' := 26) (lv' := [some (.inr (.inr (.inl (1, 1)))), some (.inl (f 4 20)), none, none]) (st' := [.inl (f 4 20)]) (m' := (fl_row f 1 (upd (f 1) 9 (0 : Int32)), l)) rfl rfl (fl_bo rfl) rfl ?_
    have hj54 : fl_Tq (pw_P L xs) 59 34 [some (.inr (.inr (.inl (1, 1)))), some (.inl (f 4 20)), none, none] [.inl (c0_letCurrent_j26_0 f)] (fl_row f 1 (upd (f 1) 9 (0 : Int32)), l) Q → fl_Tq (pw_P L xs) 59 26 [some (.inr (.inr (.inl (1, 1)))), some (.inl (f 4 20)), none, none] [.inl (f 4 20)] (fl_row f 1 (upd (f 1) 9 (0 : Int32)), l) Q := by
      intro hJ
      by_cases h2 : (f 4 20).toInt < 0
      · refine fl_Tq.zf rfl (fl_bo rfl) (c1_ge_f h2) rfl ?_
        refine fl_Tq.cI (c := (1 : Int32)) rfl (by decide +kernel) (fl_bo rfl) ?_
        refine fl_Tq.stp (pc' := 34) (lv' := [some (.inr (.inr (.inl (1, 1)))), some (.inl (f 4 20)), none, none]) (st' := [.inl (1 : Int32)]) (m' := (fl_row f 1 (upd (f 1) 9 (0 : Int32)), l)) rfl rfl (fl_bo rfl) rfl ?_
        have e0 : (c0_letCurrent_j26_0 f) = (1 : Int32) := by simp only [c0_letCurrent_j26_0, if_pos h2]
        rw [e0] at hJ
        exact hJ
      · refine fl_Tq.zt rfl (fl_bo rfl) (c1_ge_t h2) rfl ?_
        refine fl_Tq.cI (c := (0 : Int32)) rfl (by decide +kernel) (fl_bo rfl) ?_
        have e0 : (c0_letCurrent_j26_0 f) = (0 : Int32) := by simp only [c0_letCurrent_j26_0, if_neg h2]
        rw [e0] at hJ
        exact hJ
    refine hj54 ?_
    show fl_Tq _ 59 34 [some (.inr (.inr (.inl (1, 1)))), some (.inl (f 4 20)), none, none] [.inl (c0_letCurrent_j26_0 f)] (fl_row f 1 (upd (f 1) 9 (0 : Int32)), l) _
    refine fl_Tq.stp (pc' := 35) (lv' := [some (.inr (.inr (.inl (1, 1)))), some (.inl (f 4 20)), some (.inl (c0_letCurrent_j26_0 f)), none]) (st' := []) (m' := (fl_row f 1 (upd (f 1) 9 (0 : Int32)), l)) rfl rfl (fl_bo rfl) rfl ?_
    refine fl_Tq.stp (pc' := 36) (lv' := [some (.inr (.inr (.inl (1, 1)))), some (.inl (f 4 20)), some (.inl (c0_letCurrent_j26_0 f)), none]) (st' := [.inr (.inr (.inl (1, 1)))]) (m' := (fl_row f 1 (upd (f 1) 9 (0 : Int32)), l)) rfl rfl (fl_bo rfl) rfl ?_
    refine fl_Tq.stp (pc' := 37) (lv' := [some (.inr (.inr (.inl (1, 1)))), some (.inl (f 4 20)), some (.inl (c0_letCurrent_j26_0 f)), none]) (st' := [.inl (c0_letCurrent_j26_0 f), .inr (.inr (.inl (1, 1)))]) (m' := (fl_row f 1 (upd (f 1) 9 (0 : Int32)), l)) rfl rfl (fl_bo rfl) rfl ?_
    refine fl_Tq.cal rfl rfl (fl_bo rfl) rfl ?_
    refine c0_limitOf_q (by simp only [fl_row_self, upd_ne (by decide : 5 ≠ 9)]; exact hc) (by simp only [fl_row_ne (by decide : 3 ≠ 1)]; exact hz) ?_
    show fl_Tq _ 59 40 [some (.inr (.inr (.inl (1, 1)))), some (.inl (f 4 20)), some (.inl (c0_letCurrent_j26_0 f)), none] [.inl (c0_limitOf_v (fl_row f 1 (upd (f 1) 9 (0 : Int32))) (c0_letCurrent_j26_0 f))] (fl_row f 1 (upd (f 1) 9 (0 : Int32)), l) _
    refine fl_Tq.stp (pc' := 41) (lv' := [some (.inr (.inr (.inl (1, 1)))), some (.inl (f 4 20)), some (.inl (c0_letCurrent_j26_0 f)), some (.inl (c0_limitOf_v (fl_row f 1 (upd (f 1) 9 (0 : Int32))) (c0_letCurrent_j26_0 f)))]) (st' := []) (m' := (fl_row f 1 (upd (f 1) 9 (0 : Int32)), l)) rfl rfl (fl_bo rfl) rfl ?_
    refine fl_Tq.stp (pc' := 42) (lv' := [some (.inr (.inr (.inl (1, 1)))), some (.inl (f 4 20)), some (.inl (c0_letCurrent_j26_0 f)), some (.inl (c0_limitOf_v (fl_row f 1 (upd (f 1) 9 (0 : Int32))) (c0_letCurrent_j26_0 f)))]) (st' := [.inr (.inr (.inl (1, 1)))]) (m' := (fl_row f 1 (upd (f 1) 9 (0 : Int32)), l)) rfl rfl (fl_bo rfl) rfl ?_
    refine fl_Tq.stp (pc' := 43) (lv' := [some (.inr (.inr (.inl (1, 1)))), some (.inl (f 4 20)), some (.inl (c0_letCurrent_j26_0 f)), some (.inl (c0_limitOf_v (fl_row f 1 (upd (f 1) 9 (0 : Int32))) (c0_letCurrent_j26_0 f)))]) (st' := [.inl (f 4 20), .inr (.inr (.inl (1, 1)))]) (m' := (fl_row f 1 (upd (f 1) 9 (0 : Int32)), l)) rfl rfl (fl_bo rfl) rfl ?_
    refine fl_Tq.stp (pc' := 44) (lv' := [some (.inr (.inr (.inl (1, 1)))), some (.inl (f 4 20)), some (.inl (c0_letCurrent_j26_0 f)), some (.inl (c0_limitOf_v (fl_row f 1 (upd (f 1) 9 (0 : Int32))) (c0_letCurrent_j26_0 f)))]) (st' := [.inl (c0_limitOf_v (fl_row f 1 (upd (f 1) 9 (0 : Int32))) (c0_letCurrent_j26_0 f)), .inl (f 4 20), .inr (.inr (.inl (1, 1)))]) (m' := (fl_row f 1 (upd (f 1) 9 (0 : Int32)), l)) rfl rfl (fl_bo rfl) rfl ?_
    refine fl_Tq.stp (pc' := 45) (lv' := [some (.inr (.inr (.inl (1, 1)))), some (.inl (f 4 20)), some (.inl (c0_letCurrent_j26_0 f)), some (.inl (c0_limitOf_v (fl_row f 1 (upd (f 1) 9 (0 : Int32))) (c0_letCurrent_j26_0 f)))]) (st' := [.inl (-(c0_limitOf_v (fl_row f 1 (upd (f 1) 9 (0 : Int32))) (c0_letCurrent_j26_0 f))), .inl (f 4 20), .inr (.inr (.inl (1, 1)))]) (m' := (fl_row f 1 (upd (f 1) 9 (0 : Int32)), l)) rfl rfl (fl_bo rfl) rfl ?_
    refine fl_Tq.stp (pc' := 46) (lv' := [some (.inr (.inr (.inl (1, 1)))), some (.inl (f 4 20)), some (.inl (c0_letCurrent_j26_0 f)), some (.inl (c0_limitOf_v (fl_row f 1 (upd (f 1) 9 (0 : Int32))) (c0_letCurrent_j26_0 f)))]) (st' := [.inl (c0_limitOf_v (fl_row f 1 (upd (f 1) 9 (0 : Int32))) (c0_letCurrent_j26_0 f)), .inl (-(c0_limitOf_v (fl_row f 1 (upd (f 1) 9 (0 : Int32))) (c0_letCurrent_j26_0 f))), .inl (f 4 20), .inr (.inr (.inl (1, 1)))]) (m' := (fl_row f 1 (upd (f 1) 9 (0 : Int32)), l)) rfl rfl (fl_bo rfl) rfl ?_
    refine fl_Tq.cal rfl rfl (fl_bo rfl) rfl ?_
    refine t2_heldTo_q  ?_
    show fl_Tq _ 59 49 [some (.inr (.inr (.inl (1, 1)))), some (.inl (f 4 20)), some (.inl (c0_letCurrent_j26_0 f)), some (.inl (c0_limitOf_v (fl_row f 1 (upd (f 1) 9 (0 : Int32))) (c0_letCurrent_j26_0 f)))] [.inl (t2_heldTo_v (f 4 20) (-(c0_limitOf_v (fl_row f 1 (upd (f 1) 9 (0 : Int32))) (c0_letCurrent_j26_0 f))) (c0_limitOf_v (fl_row f 1 (upd (f 1) 9 (0 : Int32))) (c0_letCurrent_j26_0 f))), .inr (.inr (.inl (1, 1)))] (fl_row f 1 (upd (f 1) 9 (0 : Int32)), l) _
    refine fl_Tq.pfV (k := 9) (m' := (fl_row f 1 (upd (f 1) 9 (t2_heldTo_v (f 4 20) (-(c0_limitOf_v (fl_row f 1 (upd (f 1) 9 (0 : Int32))) (c0_letCurrent_j26_0 f))) (c0_limitOf_v (fl_row f 1 (upd (f 1) 9 (0 : Int32))) (c0_letCurrent_j26_0 f)))), l)) rfl (fl_bo rfl) rfl (t2_upo) ?_
    refine fl_Tq.stp (pc' := 53) (lv' := [some (.inr (.inr (.inl (1, 1)))), some (.inl (f 4 20)), some (.inl (c0_letCurrent_j26_0 f)), some (.inl (c0_limitOf_v (fl_row f 1 (upd (f 1) 9 (0 : Int32))) (c0_letCurrent_j26_0 f)))]) (st' := [.inr (.inr (.inl (1, 1)))]) (m' := (fl_row f 1 (upd (f 1) 9 (t2_heldTo_v (f 4 20) (-(c0_limitOf_v (fl_row f 1 (upd (f 1) 9 (0 : Int32))) (c0_letCurrent_j26_0 f))) (c0_limitOf_v (fl_row f 1 (upd (f 1) 9 (0 : Int32))) (c0_letCurrent_j26_0 f)))), l)) rfl rfl (fl_bo rfl) rfl ?_
    refine fl_Tq.gfV (k := 9) (v := t2_heldTo_v (f 4 20) (-(c0_limitOf_v (fl_row f 1 (upd (f 1) 9 (0 : Int32))) (c0_letCurrent_j26_0 f))) (c0_limitOf_v (fl_row f 1 (upd (f 1) 9 (0 : Int32))) (c0_letCurrent_j26_0 f))) rfl (fl_bo rfl) rfl (by simp only [fl_row_self, upd_self]) ?_
    refine fl_Tq.stp (pc' := 57) (lv' := [some (.inr (.inr (.inl (1, 1)))), some (.inl (f 4 20)), some (.inl (c0_letCurrent_j26_0 f)), some (.inl (c0_limitOf_v (fl_row f 1 (upd (f 1) 9 (0 : Int32))) (c0_letCurrent_j26_0 f)))]) (st' := [.inl (f 4 20), .inl (t2_heldTo_v (f 4 20) (-(c0_limitOf_v (fl_row f 1 (upd (f 1) 9 (0 : Int32))) (c0_letCurrent_j26_0 f))) (c0_limitOf_v (fl_row f 1 (upd (f 1) 9 (0 : Int32))) (c0_letCurrent_j26_0 f)))]) (m' := (fl_row f 1 (upd (f 1) 9 (t2_heldTo_v (f 4 20) (-(c0_limitOf_v (fl_row f 1 (upd (f 1) 9 (0 : Int32))) (c0_letCurrent_j26_0 f))) (c0_limitOf_v (fl_row f 1 (upd (f 1) 9 (0 : Int32))) (c0_letCurrent_j26_0 f)))), l)) rfl rfl (fl_bo rfl) rfl ?_
    have hj55 : fl_Tq (pw_P L xs) 59 65 [some (.inr (.inr (.inl (1, 1)))), some (.inl (f 4 20)), some (.inl (c0_letCurrent_j26_0 f)), some (.inl (c0_limitOf_v (fl_row f 1 (upd (f 1) 9 (0 : Int32))) (c0_letCurrent_j26_0 f)))] [] (if (t2_heldTo_v (f 4 20) (-(c0_limitOf_v (fl_row f 1 (upd (f 1) 9 (0 : Int32))) (c0_letCurrent_j26_0 f))) (c0_limitOf_v (fl_row f 1 (upd (f 1) 9 (0 : Int32))) (c0_letCurrent_j26_0 f))).toInt = (f 4 20).toInt then fl_row f 1 (upd (f 1) 9 (t2_heldTo_v (f 4 20) (-(c0_limitOf_v (fl_row f 1 (upd (f 1) 9 (0 : Int32))) (c0_letCurrent_j26_0 f))) (c0_limitOf_v (fl_row f 1 (upd (f 1) 9 (0 : Int32))) (c0_letCurrent_j26_0 f)))) else c0_countHeldBack_m (fl_row f 1 (upd (f 1) 9 (t2_heldTo_v (f 4 20) (-(c0_limitOf_v (fl_row f 1 (upd (f 1) 9 (0 : Int32))) (c0_letCurrent_j26_0 f))) (c0_limitOf_v (fl_row f 1 (upd (f 1) 9 (0 : Int32))) (c0_letCurrent_j26_0 f))))) (c0_letCurrent_j26_0 f), l) Q → fl_Tq (pw_P L xs) 59 57 [some (.inr (.inr (.inl (1, 1)))), some (.inl (f 4 20)), some (.inl (c0_letCurrent_j26_0 f)), some (.inl (c0_limitOf_v (fl_row f 1 (upd (f 1) 9 (0 : Int32))) (c0_letCurrent_j26_0 f)))] [.inl (f 4 20), .inl (t2_heldTo_v (f 4 20) (-(c0_limitOf_v (fl_row f 1 (upd (f 1) 9 (0 : Int32))) (c0_letCurrent_j26_0 f))) (c0_limitOf_v (fl_row f 1 (upd (f 1) 9 (0 : Int32))) (c0_letCurrent_j26_0 f)))] (fl_row f 1 (upd (f 1) 9 (t2_heldTo_v (f 4 20) (-(c0_limitOf_v (fl_row f 1 (upd (f 1) 9 (0 : Int32))) (c0_letCurrent_j26_0 f))) (c0_limitOf_v (fl_row f 1 (upd (f 1) 9 (0 : Int32))) (c0_letCurrent_j26_0 f)))), l) Q := by
      intro hJ
      by_cases h3 : (t2_heldTo_v (f 4 20) (-(c0_limitOf_v (fl_row f 1 (upd (f 1) 9 (0 : Int32))) (c0_letCurrent_j26_0 f))) (c0_limitOf_v (fl_row f 1 (upd (f 1) 9 (0 : Int32))) (c0_letCurrent_j26_0 f))).toInt = (f 4 20).toInt
      · refine fl_Tq.jt rfl (fl_bo rfl) (c2_eq_t h3) rfl ?_
        have e0 : (if (t2_heldTo_v (f 4 20) (-(c0_limitOf_v (fl_row f 1 (upd (f 1) 9 (0 : Int32))) (c0_letCurrent_j26_0 f))) (c0_limitOf_v (fl_row f 1 (upd (f 1) 9 (0 : Int32))) (c0_letCurrent_j26_0 f))).toInt = (f 4 20).toInt then fl_row f 1 (upd (f 1) 9 (t2_heldTo_v (f 4 20) (-(c0_limitOf_v (fl_row f 1 (upd (f 1) 9 (0 : Int32))) (c0_letCurrent_j26_0 f))) (c0_limitOf_v (fl_row f 1 (upd (f 1) 9 (0 : Int32))) (c0_letCurrent_j26_0 f)))) else c0_countHeldBack_m (fl_row f 1 (upd (f 1) 9 (t2_heldTo_v (f 4 20) (-(c0_limitOf_v (fl_row f 1 (upd (f 1) 9 (0 : Int32))) (c0_letCurrent_j26_0 f))) (c0_limitOf_v (fl_row f 1 (upd (f 1) 9 (0 : Int32))) (c0_letCurrent_j26_0 f))))) (c0_letCurrent_j26_0 f)) = fl_row f 1 (upd (f 1) 9 (t2_heldTo_v (f 4 20) (-(c0_limitOf_v (fl_row f 1 (upd (f 1) 9 (0 : Int32))) (c0_letCurrent_j26_0 f))) (c0_limitOf_v (fl_row f 1 (upd (f 1) 9 (0 : Int32))) (c0_letCurrent_j26_0 f)))) := by simp only [if_pos h3]
        rw [e0] at hJ
        exact hJ
      · refine fl_Tq.jf rfl (fl_bo rfl) (c2_eq_f h3) rfl ?_
        refine fl_Tq.stp (pc' := 61) (lv' := [some (.inr (.inr (.inl (1, 1)))), some (.inl (f 4 20)), some (.inl (c0_letCurrent_j26_0 f)), some (.inl (c0_limitOf_v (fl_row f 1 (upd (f 1) 9 (0 : Int32))) (c0_letCurrent_j26_0 f)))]) (st' := [.inr (.inr (.inl (1, 1)))]) (m' := (fl_row f 1 (upd (f 1) 9 (t2_heldTo_v (f 4 20) (-(c0_limitOf_v (fl_row f 1 (upd (f 1) 9 (0 : Int32))) (c0_letCurrent_j26_0 f))) (c0_limitOf_v (fl_row f 1 (upd (f 1) 9 (0 : Int32))) (c0_letCurrent_j26_0 f)))), l)) rfl rfl (fl_bo rfl) rfl ?_
        refine fl_Tq.stp (pc' := 62) (lv' := [some (.inr (.inr (.inl (1, 1)))), some (.inl (f 4 20)), some (.inl (c0_letCurrent_j26_0 f)), some (.inl (c0_limitOf_v (fl_row f 1 (upd (f 1) 9 (0 : Int32))) (c0_letCurrent_j26_0 f)))]) (st' := [.inl (c0_letCurrent_j26_0 f), .inr (.inr (.inl (1, 1)))]) (m' := (fl_row f 1 (upd (f 1) 9 (t2_heldTo_v (f 4 20) (-(c0_limitOf_v (fl_row f 1 (upd (f 1) 9 (0 : Int32))) (c0_letCurrent_j26_0 f))) (c0_limitOf_v (fl_row f 1 (upd (f 1) 9 (0 : Int32))) (c0_letCurrent_j26_0 f)))), l)) rfl rfl (fl_bo rfl) rfl ?_
        refine fl_Tq.cal rfl rfl (fl_bo rfl) rfl ?_
        refine c0_countHeldBack_q (by simp only [fl_row_self, upd_ne (by decide : 5 ≠ 9)]; exact hc) (by simp only [fl_row_ne (by decide : 3 ≠ 1)]; exact hz) ?_
        show fl_Tq _ 59 65 [some (.inr (.inr (.inl (1, 1)))), some (.inl (f 4 20)), some (.inl (c0_letCurrent_j26_0 f)), some (.inl (c0_limitOf_v (fl_row f 1 (upd (f 1) 9 (0 : Int32))) (c0_letCurrent_j26_0 f)))] [] (c0_countHeldBack_m (fl_row f 1 (upd (f 1) 9 (t2_heldTo_v (f 4 20) (-(c0_limitOf_v (fl_row f 1 (upd (f 1) 9 (0 : Int32))) (c0_letCurrent_j26_0 f))) (c0_limitOf_v (fl_row f 1 (upd (f 1) 9 (0 : Int32))) (c0_letCurrent_j26_0 f))))) (c0_letCurrent_j26_0 f), l) _
        have e0 : (if (t2_heldTo_v (f 4 20) (-(c0_limitOf_v (fl_row f 1 (upd (f 1) 9 (0 : Int32))) (c0_letCurrent_j26_0 f))) (c0_limitOf_v (fl_row f 1 (upd (f 1) 9 (0 : Int32))) (c0_letCurrent_j26_0 f))).toInt = (f 4 20).toInt then fl_row f 1 (upd (f 1) 9 (t2_heldTo_v (f 4 20) (-(c0_limitOf_v (fl_row f 1 (upd (f 1) 9 (0 : Int32))) (c0_letCurrent_j26_0 f))) (c0_limitOf_v (fl_row f 1 (upd (f 1) 9 (0 : Int32))) (c0_letCurrent_j26_0 f)))) else c0_countHeldBack_m (fl_row f 1 (upd (f 1) 9 (t2_heldTo_v (f 4 20) (-(c0_limitOf_v (fl_row f 1 (upd (f 1) 9 (0 : Int32))) (c0_letCurrent_j26_0 f))) (c0_limitOf_v (fl_row f 1 (upd (f 1) 9 (0 : Int32))) (c0_letCurrent_j26_0 f))))) (c0_letCurrent_j26_0 f)) = c0_countHeldBack_m (fl_row f 1 (upd (f 1) 9 (t2_heldTo_v (f 4 20) (-(c0_limitOf_v (fl_row f 1 (upd (f 1) 9 (0 : Int32))) (c0_letCurrent_j26_0 f))) (c0_limitOf_v (fl_row f 1 (upd (f 1) 9 (0 : Int32))) (c0_letCurrent_j26_0 f))))) (c0_letCurrent_j26_0 f) := by simp only [if_neg h3]
        rw [e0] at hJ
        exact hJ
    refine hj55 ?_
    show fl_Tq _ 59 65 [some (.inr (.inr (.inl (1, 1)))), some (.inl (f 4 20)), some (.inl (c0_letCurrent_j26_0 f)), some (.inl (c0_limitOf_v (fl_row f 1 (upd (f 1) 9 (0 : Int32))) (c0_letCurrent_j26_0 f)))] [] (if (t2_heldTo_v (f 4 20) (-(c0_limitOf_v (fl_row f 1 (upd (f 1) 9 (0 : Int32))) (c0_letCurrent_j26_0 f))) (c0_limitOf_v (fl_row f 1 (upd (f 1) 9 (0 : Int32))) (c0_letCurrent_j26_0 f))).toInt = (f 4 20).toInt then fl_row f 1 (upd (f 1) 9 (t2_heldTo_v (f 4 20) (-(c0_limitOf_v (fl_row f 1 (upd (f 1) 9 (0 : Int32))) (c0_letCurrent_j26_0 f))) (c0_limitOf_v (fl_row f 1 (upd (f 1) 9 (0 : Int32))) (c0_letCurrent_j26_0 f)))) else c0_countHeldBack_m (fl_row f 1 (upd (f 1) 9 (t2_heldTo_v (f 4 20) (-(c0_limitOf_v (fl_row f 1 (upd (f 1) 9 (0 : Int32))) (c0_letCurrent_j26_0 f))) (c0_limitOf_v (fl_row f 1 (upd (f 1) 9 (0 : Int32))) (c0_letCurrent_j26_0 f))))) (c0_letCurrent_j26_0 f), l) _
    refine fl_Tq.ret rfl rfl rfl ?_
    unfold c0_letCurrent_m at k
    simp only [if_neg h1] at k
    exact k
