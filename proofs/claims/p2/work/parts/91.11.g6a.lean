noncomputable def c0_bplace_j12_0 (f : t2_F) (x : Int32) : Int32 := if ((f 13 2) + x).toInt < (f 13 0).toInt then (f 13 2) + x else ((f 13 2) + x) - (f 13 0)
noncomputable def c0_bplace_v (f : t2_F) (x : Int32) : Int32 := c0_bplace_j12_0 f x
theorem c0_bplace_q {L : Nat} {xs : Nat → Int32} {f : t2_F} {l : t2_L} {Q : Option fl_V → fl_M → Prop} {x : Int32}  (k : Q (some (.inl (c0_bplace_v f x))) (f, l)) : fl_Tq (pw_P L xs) 29 0 (fl_args (am_mxl (pw_P L xs) 29) [.inr (.inr (.inl (13, 13))), .inl x]) [] (f, l) Q := by
  refine fl_Tq.stp (pc' := 1) (lv' := [some (.inr (.inr (.inl (13, 13)))), some (.inl x), none]) (st' := [.inr (.inr (.inl (13, 13)))]) (m' := (f, l)) rfl rfl (fl_bo rfl) rfl ?_
  refine fl_Tq.gfV (k := 2) (v := f 13 2) rfl (fl_bo rfl) rfl rfl ?_
  refine fl_Tq.stp (pc' := 5) (lv' := [some (.inr (.inr (.inl (13, 13)))), some (.inl x), none]) (st' := [.inl x, .inl (f 13 2)]) (m' := (f, l)) rfl rfl (fl_bo rfl) rfl ?_
  refine fl_Tq.stp (pc' := 6) (lv' := [some (.inr (.inr (.inl (13, 13)))), some (.inl x), none]) (st' := [.inl ((f 13 2) + x)]) (m' := (f, l)) rfl rfl (fl_bo rfl) rfl ?_
  refine fl_Tq.stp (pc' := 7) (lv' := [some (.inr (.inr (.inl (13, 13)))), some (.inl x), some (.inl ((f 13 2) + x))]) (st' := []) (m' := (f, l)) rfl rfl (fl_bo rfl) rfl ?_
  refine fl_Tq.stp (pc' := 8) (lv' := [some (.inr (.inr (.inl (13, 13)))), some (.inl x), some (.inl ((f 13 2) + x))]) (st' := [.inl ((f 13 2) + x)]) (m' := (f, l)) rfl rfl (fl_bo rfl) rfl ?_
  refine fl_Tq.stp (pc' := 9) (lv' := [some (.inr (.inr (.inl (13, 13)))), some (.inl x), some (.inl ((f 13 2) + x))]) (st' := [.inr (.inr (.inl (13, 13))), .inl ((f 13 2) + x)]) (m' := (f, l)) rfl rfl (fl_bo rfl) rfl ?_
  refine fl_Tq.gfV (k := 0) (v := f 13 0) rfl (fl_bo rfl) rfl rfl ?_
  have hj57 : fl_Tq (pw_P L xs) 29 25 [some (.inr (.inr (.inl (13, 13)))), some (.inl x), some (.inl ((f 13 2) + x))] [.inl (c0_bplace_j12_0 f x)] (f, l) Q → fl_Tq (pw_P L xs) 29 12 [some (.inr (.inr (.inl (13, 13)))), some (.inl x), some (.inl ((f 13 2) + x))] [.inl (f 13 0), .inl ((f 13 2) + x)] (f, l) Q := by
    intro hJ
    by_cases h1 : ((f 13 2) + x).toInt < (f 13 0).toInt
    · refine fl_Tq.jt rfl (fl_bo rfl) (c2_lt_t h1) rfl ?_
      refine fl_Tq.stp (pc' := 25) (lv' := [some (.inr (.inr (.inl (13, 13)))), some (.inl x), some (.inl ((f 13 2) + x))]) (st' := [.inl ((f 13 2) + x)]) (m' := (f, l)) rfl rfl (fl_bo rfl) rfl ?_
      have e0 : (c0_bplace_j12_0 f x) = (f 13 2) + x := by simp only [c0_bplace_j12_0, if_pos h1]
      rw [e0] at hJ
      exact hJ
    · refine fl_Tq.jf rfl (fl_bo rfl) (c2_lt_f h1) rfl ?_
      refine fl_Tq.stp (pc' := 16) (lv' := [some (.inr (.inr (.inl (13, 13)))), some (.inl x), some (.inl ((f 13 2) + x))]) (st' := [.inl ((f 13 2) + x)]) (m' := (f, l)) rfl rfl (fl_bo rfl) rfl ?_
      refine fl_Tq.stp (pc' := 17) (lv' := [some (.inr (.inr (.inl (13, 13)))), some (.inl x), some (.inl ((f 13 2) + x))]) (st' := [.inr (.inr (.inl (13, 13))), .inl ((f 13 2) + x)]) (m' := (f, l)) rfl rfl (fl_bo rfl) rfl ?_
      refine fl_Tq.gfV (k := 0) (v := f 13 0) rfl (fl_bo rfl) rfl rfl ?_
      refine fl_Tq.stp (pc' := 21) (lv' := [some (.inr (.inr (.inl (13, 13)))), some (.inl x), some (.inl ((f 13 2) + x))]) (st' := [.inl (((f 13 2) + x) - (f 13 0))]) (m' := (f, l)) rfl rfl (fl_bo rfl) rfl ?_
      refine fl_Tq.stp (pc' := 25) (lv' := [some (.inr (.inr (.inl (13, 13)))), some (.inl x), some (.inl ((f 13 2) + x))]) (st' := [.inl (((f 13 2) + x) - (f 13 0))]) (m' := (f, l)) rfl rfl (fl_bo rfl) rfl ?_
      have e0 : (c0_bplace_j12_0 f x) = ((f 13 2) + x) - (f 13 0) := by simp only [c0_bplace_j12_0, if_neg h1]
      rw [e0] at hJ
      exact hJ
  refine hj57 ?_
  show fl_Tq _ 29 25 [some (.inr (.inr (.inl (13, 13)))), some (.inl x), some (.inl ((f 13 2) + x))] [.inl (c0_bplace_j12_0 f x)] (f, l) _
  exact fl_Tq.ret rfl rfl rfl k
theorem c0_bplace_b {f : t2_F} {x : Int32} (hl : f 13 0 = (24 : Int32) ∧ (0 ≤ (f 13 2).toInt ∧ (f 13 2).toInt ≤ 23) ∧ (0 ≤ (f 13 3).toInt ∧ (f 13 3).toInt ≤ 24)) (hx : 0 ≤ x.toInt ∧ x.toInt ≤ 24) : 0 ≤ (c0_bplace_v f x).toInt ∧ (c0_bplace_v f x).toInt ≤ 23 := by
  have e : (24 : Int32).toInt = 24 := by decide +kernel
  obtain ⟨h1, h2, h3⟩ := hl
  have e2 : (f 13 2 + x).toInt = (f 13 2).toInt + x.toInt := at_add32 (by omega) (by omega)
  unfold c0_bplace_v c0_bplace_j12_0
  rw [h1]
  split
  · omega
  · rename_i h
    rw [at_sub32 (by omega) (by omega)]
    omega
noncomputable def c0_badd_j48_0 (f : t2_F) (x y z : Int32) : Int32 := if (f 13 3).toInt < (f 13 0).toInt then (f 13 3) + (1 : Int32) else f 13 3
noncomputable def c0_badd_j48_1 (f : t2_F) (x y z : Int32) : Int32 := if (f 13 3).toInt < (f 13 0).toInt then f 13 2 else c0_bplace_v (fl_row f 14 (upd (upd (upd (f 14) ((c0_bplace_v f (f 13 3)).toInt.toNat * 3) x) ((c0_bplace_v f (f 13 3)).toInt.toNat * 3 + 1) y) ((c0_bplace_v f (f 13 3)).toInt.toNat * 3 + 2) z)) (1 : Int32)
noncomputable def c0_badd_m (f : t2_F) (x y z : Int32) : t2_F := fl_row (fl_row f 14 (upd (upd (upd (f 14) ((c0_bplace_v f (f 13 3)).toInt.toNat * 3) x) ((c0_bplace_v f (f 13 3)).toInt.toNat * 3 + 1) y) ((c0_bplace_v f (f 13 3)).toInt.toNat * 3 + 2) z)) 13 (upd (upd (f 13) 3 (c0_badd_j48_0 f x y z)) 2 (c0_badd_j48_1 f x y z))
theorem c0_badd_fr {f : t2_F} {x y z : Int32} {p : Nat} (e0 : p ≠ 14) (e1 : p ≠ 13) : c0_badd_m f x y z p = f p := by
  unfold c0_badd_m
  repeat' split
  all_goals first | rfl | simp only [fl_row_ne e0, fl_row_ne e1]
theorem c0_badd_q {L : Nat} {xs : Nat → Int32} {f : t2_F} {l : t2_L} {Q : Option fl_V → fl_M → Prop} {x y z : Int32} (hl : f 13 0 = (24 : Int32) ∧ (0 ≤ (f 13 2).toInt ∧ (f 13 2).toInt ≤ 23) ∧ (0 ≤ (f 13 3).toInt ∧ (f 13 3).toInt ≤ 24)) (k : Q none (c0_badd_m f x y z, l)) : fl_Tq (pw_P L xs) 27 0 (fl_args (am_mxl (pw_P L xs) 27) [.inr (.inr (.inl (13, 13))), .inl x, .inl y, .inl z]) [] (f, l) Q := by
  refine fl_Tq.stp (pc' := 1) (lv' := [some (.inr (.inr (.inl (13, 13)))), some (.inl x), some (.inl y), some (.inl z), none]) (st' := [.inr (.inr (.inl (13, 13)))]) (m' := (f, l)) rfl rfl (fl_bo rfl) rfl ?_
  refine fl_Tq.stp (pc' := 2) (lv' := [some (.inr (.inr (.inl (13, 13)))), some (.inl x), some (.inl y), some (.inl z), none]) (st' := [.inr (.inr (.inl (13, 13))), .inr (.inr (.inl (13, 13)))]) (m' := (f, l)) rfl rfl (fl_bo rfl) rfl ?_
  refine fl_Tq.gfV (k := 3) (v := f 13 3) rfl (fl_bo rfl) rfl rfl ?_
  refine fl_Tq.cal rfl rfl (fl_bo rfl) rfl ?_
  refine c0_bplace_q  ?_
  show fl_Tq _ 27 8 [some (.inr (.inr (.inl (13, 13)))), some (.inl x), some (.inl y), some (.inl z), none] [.inl (c0_bplace_v f (f 13 3))] (f, l) _
  refine fl_Tq.cI (c := (3 : Int32)) rfl (by decide +kernel) (fl_bo rfl) ?_
  refine fl_Tq.stp (pc' := 10) (lv' := [some (.inr (.inr (.inl (13, 13)))), some (.inl x), some (.inl y), some (.inl z), none]) (st' := [.inl ((c0_bplace_v f (f 13 3)) * (3 : Int32))]) (m' := (f, l)) rfl rfl (fl_bo rfl) rfl ?_
  refine fl_Tq.stp (pc' := 12) (lv' := [some (.inr (.inr (.inl (13, 13)))), some (.inl x), some (.inl y), some (.inl z), some (.inl ((c0_bplace_v f (f 13 3)) * (3 : Int32)))]) (st' := []) (m' := (f, l)) rfl rfl (fl_bo rfl) rfl ?_
  refine fl_Tq.stp (pc' := 13) (lv' := [some (.inr (.inr (.inl (13, 13)))), some (.inl x), some (.inl y), some (.inl z), some (.inl ((c0_bplace_v f (f 13 3)) * (3 : Int32)))]) (st' := [.inr (.inr (.inl (13, 13)))]) (m' := (f, l)) rfl rfl (fl_bo rfl) rfl ?_
  refine fl_Tq.stp (pc' := 16) (lv' := [some (.inr (.inr (.inl (13, 13)))), some (.inl x), some (.inl y), some (.inl z), some (.inl ((c0_bplace_v f (f 13 3)) * (3 : Int32)))]) (st' := [.inr (.inr (.inl (14, 14)))]) (m' := (f, l)) rfl rfl (fl_bo rfl) rfl ?_
  refine fl_Tq.stp (pc' := 18) (lv' := [some (.inr (.inr (.inl (13, 13)))), some (.inl x), some (.inl y), some (.inl z), some (.inl ((c0_bplace_v f (f 13 3)) * (3 : Int32)))]) (st' := [.inl ((c0_bplace_v f (f 13 3)) * (3 : Int32)), .inr (.inr (.inl (14, 14)))]) (m' := (f, l)) rfl rfl (fl_bo rfl) rfl ?_
  refine fl_Tq.stp (pc' := 19) (lv' := [some (.inr (.inr (.inl (13, 13)))), some (.inl x), some (.inl y), some (.inl z), some (.inl ((c0_bplace_v f (f 13 3)) * (3 : Int32)))]) (st' := [.inl x, .inl ((c0_bplace_v f (f 13 3)) * (3 : Int32)), .inr (.inr (.inl (14, 14)))]) (m' := (f, l)) rfl rfl (fl_bo rfl) rfl ?_
  refine fl_Tq.svV (p := 14) (τ := 14) (n := 72) (z := (0, 0, 0)) (k := (c0_bplace_v f (f 13 3)).toInt.toNat * 3) (m' := (fl_row f 14 (upd (f 14) ((c0_bplace_v f (f 13 3)).toInt.toNat * 3) x), l)) rfl (fl_bo rfl) rfl (t2_im (have hb := (c0_bplace_b hl hl.2.2); t2_nn hb.1) (by decide +kernel) (by have hb := (c0_bplace_b hl hl.2.2); omega)) (by have hb := (c0_bplace_b hl hl.2.2); omega) (t2_upn rfl) ?_
  refine fl_Tq.stp (pc' := 21) (lv' := [some (.inr (.inr (.inl (13, 13)))), some (.inl x), some (.inl y), some (.inl z), some (.inl ((c0_bplace_v f (f 13 3)) * (3 : Int32)))]) (st' := [.inr (.inr (.inl (13, 13)))]) (m' := (fl_row f 14 (upd (f 14) ((c0_bplace_v f (f 13 3)).toInt.toNat * 3) x), l)) rfl rfl (fl_bo rfl) rfl ?_
  refine fl_Tq.stp (pc' := 24) (lv' := [some (.inr (.inr (.inl (13, 13)))), some (.inl x), some (.inl y), some (.inl z), some (.inl ((c0_bplace_v f (f 13 3)) * (3 : Int32)))]) (st' := [.inr (.inr (.inl (14, 14)))]) (m' := (fl_row f 14 (upd (f 14) ((c0_bplace_v f (f 13 3)).toInt.toNat * 3) x), l)) rfl rfl (fl_bo rfl) rfl ?_
  refine fl_Tq.stp (pc' := 26) (lv' := [some (.inr (.inr (.inl (13, 13)))), some (.inl x), some (.inl y), some (.inl z), some (.inl ((c0_bplace_v f (f 13 3)) * (3 : Int32)))]) (st' := [.inl ((c0_bplace_v f (f 13 3)) * (3 : Int32)), .inr (.inr (.inl (14, 14)))]) (m' := (fl_row f 14 (upd (f 14) ((c0_bplace_v f (f 13 3)).toInt.toNat * 3) x), l)) rfl rfl (fl_bo rfl) rfl ?_
  refine fl_Tq.cI (c := (1 : Int32)) rfl (by decide +kernel) (fl_bo rfl) ?_
  refine fl_Tq.stp (pc' := 28) (lv' := [some (.inr (.inr (.inl (13, 13)))), some (.inl x), some (.inl y), some (.inl z), some (.inl ((c0_bplace_v f (f 13 3)) * (3 : Int32)))]) (st' := [.inl (((c0_bplace_v f (f 13 3)) * (3 : Int32)) + (1 : Int32)), .inr (.inr (.inl (14, 14)))]) (m' := (fl_row f 14 (upd (f 14) ((c0_bplace_v f (f 13 3)).toInt.toNat * 3) x), l)) rfl rfl (fl_bo rfl) rfl ?_
  refine fl_Tq.stp (pc' := 29) (lv' := [some (.inr (.inr (.inl (13, 13)))), some (.inl x), some (.inl y), some (.inl z), some (.inl ((c0_bplace_v f (f 13 3)) * (3 : Int32)))]) (st' := [.inl y, .inl (((c0_bplace_v f (f 13 3)) * (3 : Int32)) + (1 : Int32)), .inr (.inr (.inl (14, 14)))]) (m' := (fl_row f 14 (upd (f 14) ((c0_bplace_v f (f 13 3)).toInt.toNat * 3) x), l)) rfl rfl (fl_bo rfl) rfl ?_
  refine fl_Tq.svV (p := 14) (τ := 14) (n := 72) (z := (0, 0, 0)) (k := (c0_bplace_v f (f 13 3)).toInt.toNat * 3 + 1) (m' := (fl_row f 14 (upd (upd (f 14) ((c0_bplace_v f (f 13 3)).toInt.toNat * 3) x) ((c0_bplace_v f (f 13 3)).toInt.toNat * 3 + 1) y), l)) rfl (fl_bo rfl) rfl (t2_ia (t2_im (have hb := (c0_bplace_b hl hl.2.2); t2_nn hb.1) (by decide +kernel) (by have hb := (c0_bplace_b hl hl.2.2); omega)) (by decide +kernel) (by have hb := (c0_bplace_b hl hl.2.2); omega)) (by have hb := (c0_bplace_b hl hl.2.2); omega) (t2_upr) ?_
  refine fl_Tq.stp (pc' := 31) (lv' := [some (.inr (.inr (.inl (13, 13)))), some (.inl x), some (.inl y), some (.inl z), some (.inl ((c0_bplace_v f (f 13 3)) * (3 : Int32)))]) (st' := [.inr (.inr (.inl (13, 13)))]) (m' := (fl_row f 14 (upd (upd (f 14) ((c0_bplace_v f (f 13 3)).toInt.toNat * 3) x) ((c0_bplace_v f (f 13 3)).toInt.toNat * 3 + 1) y), l)) rfl rfl (fl_bo rfl) rfl ?_
  refine fl_Tq.stp (pc' := 34) (lv' := [some (.inr (.inr (.inl (13, 13)))), some (.inl x), some (.inl y), some (.inl z), some (.inl ((c0_bplace_v f (f 13 3)) * (3 : Int32)))]) (st' := [.inr (.inr (.inl (14, 14)))]) (m' := (fl_row f 14 (upd (upd (f 14) ((c0_bplace_v f (f 13 3)).toInt.toNat * 3) x) ((c0_bplace_v f (f 13 3)).toInt.toNat * 3 + 1) y), l)) rfl rfl (fl_bo rfl) rfl ?_
  refine fl_Tq.stp (pc' := 36) (lv' := [some (.inr (.inr (.inl (13, 13)))), some (.inl x), some (.inl y), some (.inl z), some (.inl ((c0_bplace_v f (f 13 3)) * (3 : Int32)))]) (st' := [.inl ((c0_bplace_v f (f 13 3)) * (3 : Int32)), .inr (.inr (.inl (14, 14)))]) (m' := (fl_row f 14 (upd (upd (f 14) ((c0_bplace_v f (f 13 3)).toInt.toNat * 3) x) ((c0_bplace_v f (f 13 3)).toInt.toNat * 3 + 1) y), l)) rfl rfl (fl_bo rfl) rfl ?_
  refine fl_Tq.cI (c := (2 : Int32)) rfl (by decide +kernel) (fl_bo rfl) ?_
  refine fl_Tq.stp (pc' := 38) (lv' := [some (.inr (.inr (.inl (13, 13)))), some (.inl x), some (.inl y), some (.inl z), some (.inl ((c0_bplace_v f (f 13 3)) * (3 : Int32)))]) (st' := [.inl (((c0_bplace_v f (f 13 3)) * (3 : Int32)) + (2 : Int32)), .inr (.inr (.inl (14, 14)))]) (m' := (fl_row f 14 (upd (upd (f 14) ((c0_bplace_v f (f 13 3)).toInt.toNat * 3) x) ((c0_bplace_v f (f 13 3)).toInt.toNat * 3 + 1) y), l)) rfl rfl (fl_bo rfl) rfl ?_
  refine fl_Tq.stp (pc' := 39) (lv' := [some (.inr (.inr (.inl (13, 13)))), some (.inl x), some (.inl y), some (.inl z), some (.inl ((c0_bplace_v f (f 13 3)) * (3 : Int32)))]) (st' := [.inl z, .inl (((c0_bplace_v f (f 13 3)) * (3 : Int32)) + (2 : Int32)), .inr (.inr (.inl (14, 14)))]) (m' := (fl_row f 14 (upd (upd (f 14) ((c0_bplace_v f (f 13 3)).toInt.toNat * 3) x) ((c0_bplace_v f (f 13 3)).toInt.toNat * 3 + 1) y), l)) rfl rfl (fl_bo rfl) rfl ?_
  refine fl_Tq.svV (p := 14) (τ := 14) (n := 72) (z := (0, 0, 0)) (k := (c0_bplace_v f (f 13 3)).toInt.toNat * 3 + 2) (m' := (fl_row f 14 (upd (upd (upd (f 14) ((c0_bplace_v f (f 13 3)).toInt.toNat * 3) x) ((c0_bplace_v f (f 13 3)).toInt.toNat * 3 + 1) y) ((c0_bplace_v f (f 13 3)).toInt.toNat * 3 + 2) z), l)) rfl (fl_bo rfl) rfl (t2_ia (t2_im (have hb := (c0_bplace_b hl hl.2.2); t2_nn hb.1) (by decide +kernel) (by have hb := (c0_bplace_b hl hl.2.2); omega)) (by decide +kernel) (by have hb := (c0_bplace_b hl hl.2.2); omega)) (by have hb := (c0_bplace_b hl hl.2.2); omega) (t2_upr) ?_
  refine fl_Tq.stp (pc' := 41) (lv' := [some (.inr (.inr (.inl (13, 13)))), some (.inl x), some (.inl y), some (.inl z), some (.inl ((c0_bplace_v f (f 13 3)) * (3 : Int32)))]) (st' := [.inr (.inr (.inl (13, 13)))]) (m' := (fl_row f 14 (upd (upd (upd (f 14) ((c0_bplace_v f (f 13 3)).toInt.toNat * 3) x) ((c0_bplace_v f (f 13 3)).toInt.toNat * 3 + 1) y) ((c0_bplace_v f (f 13 3)).toInt.toNat * 3 + 2) z), l)) rfl rfl (fl_bo rfl) rfl ?_
  refine fl_Tq.gfV (k := 3) (v := f 13 3) rfl (fl_bo rfl) rfl (by simp only [fl_row_ne (by decide : 13 ≠ 14)]) ?_
  refine fl_Tq.stp (pc' := 45) (lv' := [some (.inr (.inr (.inl (13, 13)))), some (.inl x), some (.inl y), some (.inl z), some (.inl ((c0_bplace_v f (f 13 3)) * (3 : Int32)))]) (st' := [.inr (.inr (.inl (13, 13))), .inl (f 13 3)]) (m' := (fl_row f 14 (upd (upd (upd (f 14) ((c0_bplace_v f (f 13 3)).toInt.toNat * 3) x) ((c0_bplace_v f (f 13 3)).toInt.toNat * 3 + 1) y) ((c0_bplace_v f (f 13 3)).toInt.toNat * 3 + 2) z), l)) rfl rfl (fl_bo rfl) rfl ?_
  refine fl_Tq.gfV (k := 0) (v := f 13 0) rfl (fl_bo rfl) rfl (by simp only [fl_row_ne (by decide : 13 ≠ 14)]) ?_
  have hj58 : fl_Tq (pw_P L xs) 27 73 [some (.inr (.inr (.inl (13, 13)))), some (.inl x), some (.inl y), some (.inl z), some (.inl ((c0_bplace_v f (f 13 3)) * (3 : Int32)))] [] (fl_row (fl_row f 14 (upd (upd (upd (f 14) ((c0_bplace_v f (f 13 3)).toInt.toNat * 3) x) ((c0_bplace_v f (f 13 3)).toInt.toNat * 3 + 1) y) ((c0_bplace_v f (f 13 3)).toInt.toNat * 3 + 2) z)) 13 (upd (upd (f 13) 3 (c0_badd_j48_0 f x y z)) 2 (c0_badd_j48_1 f x y z)), l) Q → fl_Tq (pw_P L xs) 27 48 [some (.inr (.inr (.inl (13, 13)))), some (.inl x), some (.inl y), some (.inl z), some (.inl ((c0_bplace_v f (f 13 3)) * (3 : Int32)))] [.inl (f 13 0), .inl (f 13 3)] (fl_row f 14 (upd (upd (upd (f 14) ((c0_bplace_v f (f 13 3)).toInt.toNat * 3) x) ((c0_bplace_v f (f 13 3)).toInt.toNat * 3 + 1) y) ((c0_bplace_v f (f 13 3)).toInt.toNat * 3 + 2) z), l) Q := by
    intro hJ
    by_cases h1 : (f 13 3).toInt < (f 13 0).toInt
    · refine fl_Tq.jf rfl (fl_bo rfl) (c2_ge_f h1) rfl ?_
      refine fl_Tq.stp (pc' := 52) (lv' := [some (.inr (.inr (.inl (13, 13)))), some (.inl x), some (.inl y), some (.inl z), some (.inl ((c0_bplace_v f (f 13 3)) * (3 : Int32)))]) (st' := [.inr (.inr (.inl (13, 13)))]) (m' := (fl_row f 14 (upd (upd (upd (f 14) ((c0_bplace_v f (f 13 3)).toInt.toNat * 3) x) ((c0_bplace_v f (f 13 3)).toInt.toNat * 3 + 1) y) ((c0_bplace_v f (f 13 3)).toInt.toNat * 3 + 2) z), l)) rfl rfl (fl_bo rfl) rfl ?_
      refine fl_Tq.stp (pc' := 53) (lv' := [some (.inr (.inr (.inl (13, 13)))), some (.inl x), some (.inl y), some (.inl z), some (.inl ((c0_bplace_v f (f 13 3)) * (3 : Int32)))]) (st' := [.inr (.inr (.inl (13, 13))), .inr (.inr (.inl (13, 13)))]) (m' := (fl_row f 14 (upd (upd (upd (f 14) ((c0_bplace_v f (f 13 3)).toInt.toNat * 3) x) ((c0_bplace_v f (f 13 3)).toInt.toNat * 3 + 1) y) ((c0_bplace_v f (f 13 3)).toInt.toNat * 3 + 2) z), l)) rfl rfl (fl_bo rfl) rfl ?_
      refine fl_Tq.gfV (k := 3) (v := f 13 3) rfl (fl_bo rfl) rfl (by simp only [fl_row_ne (by decide : 13 ≠ 14)]) ?_
      refine fl_Tq.cI (c := (1 : Int32)) rfl (by decide +kernel) (fl_bo rfl) ?_
      refine fl_Tq.stp (pc' := 58) (lv' := [some (.inr (.inr (.inl (13, 13)))), some (.inl x), some (.inl y), some (.inl z), some (.inl ((c0_bplace_v f (f 13 3)) * (3 : Int32)))]) (st' := [.inl ((f 13 3) + (1 : Int32)), .inr (.inr (.inl (13, 13)))]) (m' := (fl_row f 14 (upd (upd (upd (f 14) ((c0_bplace_v f (f 13 3)).toInt.toNat * 3) x) ((c0_bplace_v f (f 13 3)).toInt.toNat * 3 + 1) y) ((c0_bplace_v f (f 13 3)).toInt.toNat * 3 + 2) z), l)) rfl rfl (fl_bo rfl) rfl ?_
      refine fl_Tq.pfV (k := 3) (m' := (fl_row (fl_row f 14 (upd (upd (upd (f 14) ((c0_bplace_v f (f 13 3)).toInt.toNat * 3) x) ((c0_bplace_v f (f 13 3)).toInt.toNat * 3 + 1) y) ((c0_bplace_v f (f 13 3)).toInt.toNat * 3 + 2) z)) 13 (upd (f 13) 3 ((f 13 3) + (1 : Int32))), l)) rfl (fl_bo rfl) rfl (t2_upn (by rw [fl_row_ne (by decide : 13 ≠ 14)])) ?_
      refine fl_Tq.stp (pc' := 73) (lv' := [some (.inr (.inr (.inl (13, 13)))), some (.inl x), some (.inl y), some (.inl z), some (.inl ((c0_bplace_v f (f 13 3)) * (3 : Int32)))]) (st' := []) (m' := (fl_row (fl_row f 14 (upd (upd (upd (f 14) ((c0_bplace_v f (f 13 3)).toInt.toNat * 3) x) ((c0_bplace_v f (f 13 3)).toInt.toNat * 3 + 1) y) ((c0_bplace_v f (f 13 3)).toInt.toNat * 3 + 2) z)) 13 (upd (f 13) 3 ((f 13 3) + (1 : Int32))), l)) rfl rfl (fl_bo rfl) rfl ?_
      have e0 : (fl_row (fl_row f 14 (upd (upd (upd (f 14) ((c0_bplace_v f (f 13 3)).toInt.toNat * 3) x) ((c0_bplace_v f (f 13 3)).toInt.toNat * 3 + 1) y) ((c0_bplace_v f (f 13 3)).toInt.toNat * 3 + 2) z)) 13 (upd (upd (f 13) 3 (c0_badd_j48_0 f x y z)) 2 (c0_badd_j48_1 f x y z))) = fl_row (fl_row f 14 (upd (upd (upd (f 14) ((c0_bplace_v f (f 13 3)).toInt.toNat * 3) x) ((c0_bplace_v f (f 13 3)).toInt.toNat * 3 + 1) y) ((c0_bplace_v f (f 13 3)).toInt.toNat * 3 + 2) z)) 13 (upd (f 13) 3 ((f 13 3) + (1 : Int32))) := by
        simp only [c0_badd_j48_0, c0_badd_j48_1, if_pos h1]
        funext q j
        simp only [fl_row, upd]
        repeat' split
        all_goals first | rfl | simp_all
      rw [e0] at hJ
      exact hJ
    · refine fl_Tq.jt rfl (fl_bo rfl) (c2_ge_t h1) rfl ?_
      refine fl_Tq.stp (pc' := 65) (lv' := [some (.inr (.inr (.inl (13, 13)))), some (.inl x), some (.inl y), some (.inl z), some (.inl ((c0_bplace_v f (f 13 3)) * (3 : Int32)))]) (st' := [.inr (.inr (.inl (13, 13)))]) (m' := (fl_row f 14 (upd (upd (upd (f 14) ((c0_bplace_v f (f 13 3)).toInt.toNat * 3) x) ((c0_bplace_v f (f 13 3)).toInt.toNat * 3 + 1) y) ((c0_bplace_v f (f 13 3)).toInt.toNat * 3 + 2) z), l)) rfl rfl (fl_bo rfl) rfl ?_
      refine fl_Tq.stp (pc' := 66) (lv' := [some (.inr (.inr (.inl (13, 13)))), some (.inl x), some (.inl y), some (.inl z), some (.inl ((c0_bplace_v f (f 13 3)) * (3 : Int32)))]) (st' := [.inr (.inr (.inl (13, 13))), .inr (.inr (.inl (13, 13)))]) (m' := (fl_row f 14 (upd (upd (upd (f 14) ((c0_bplace_v f (f 13 3)).toInt.toNat * 3) x) ((c0_bplace_v f (f 13 3)).toInt.toNat * 3 + 1) y) ((c0_bplace_v f (f 13 3)).toInt.toNat * 3 + 2) z), l)) rfl rfl (fl_bo rfl) rfl ?_
      refine fl_Tq.cI (c := (1 : Int32)) rfl (by decide +kernel) (fl_bo rfl) ?_
      refine fl_Tq.cal rfl rfl (fl_bo rfl) rfl ?_
      refine c0_bplace_q  ?_
      show fl_Tq _ 27 70 [some (.inr (.inr (.inl (13, 13)))), some (.inl x), some (.inl y), some (.inl z), some (.inl ((c0_bplace_v f (f 13 3)) * (3 : Int32)))] [.inl (c0_bplace_v (fl_row f 14 (upd (upd (upd (f 14) ((c0_bplace_v f (f 13 3)).toInt.toNat * 3) x) ((c0_bplace_v f (f 13 3)).toInt.toNat * 3 + 1) y) ((c0_bplace_v f (f 13 3)).toInt.toNat * 3 + 2) z)) (1 : Int32)), .inr (.inr (.inl (13, 13)))] (fl_row f 14 (upd (upd (upd (f 14) ((c0_bplace_v f (f 13 3)).toInt.toNat * 3) x) ((c0_bplace_v f (f 13 3)).toInt.toNat * 3 + 1) y) ((c0_bplace_v f (f 13 3)).toInt.toNat * 3 + 2) z), l) _
      refine fl_Tq.pfV (k := 2) (m' := (fl_row (fl_row f 14 (upd (upd (upd (f 14) ((c0_bplace_v f (f 13 3)).toInt.toNat * 3) x) ((c0_bplace_v f (f 13 3)).toInt.toNat * 3 + 1) y) ((c0_bplace_v f (f 13 3)).toInt.toNat * 3 + 2) z)) 13 (upd (f 13) 2 (c0_bplace_v (fl_row f 14 (upd (upd (upd (f 14) ((c0_bplace_v f (f 13 3)).toInt.toNat * 3) x) ((c0_bplace_v f (f 13 3)).toInt.toNat * 3 + 1) y) ((c0_bplace_v f (f 13 3)).toInt.toNat * 3 + 2) z)) (1 : Int32))), l)) rfl (fl_bo rfl) rfl (t2_upn (by rw [fl_row_ne (by decide : 13 ≠ 14)])) ?_
      have e0 : (fl_row (fl_row f 14 (upd (upd (upd (f 14) ((c0_bplace_v f (f 13 3)).toInt.toNat * 3) x) ((c0_bplace_v f (f 13 3)).toInt.toNat * 3 + 1) y) ((c0_bplace_v f (f 13 3)).toInt.toNat * 3 + 2) z)) 13 (upd (upd (f 13) 3 (c0_badd_j48_0 f x y z)) 2 (c0_badd_j48_1 f x y z))) = fl_row (fl_row f 14 (upd (upd (upd (f 14) ((c0_bplace_v f (f 13 3)).toInt.toNat * 3) x) ((c0_bplace_v f (f 13 3)).toInt.toNat * 3 + 1) y) ((c0_bplace_v f (f 13 3)).toInt.toNat * 3 + 2) z)) 13 (upd (f 13) 2 (c0_bplace_v (fl_row f 14 (upd (upd (upd (f 14) ((c0_bplace_v f (f 13 3)).toInt.toNat * 3) x) ((c0_bplace_v f (f 13 3)).toInt.toNat * 3 + 1) y) ((c0_bplace_v f (f 13 3)).toInt.toNat * 3 + 2) z)) (1 : Int32))) := by
        simp only [c0_badd_j48_0, c0_badd_j48_1, if_neg h1]
        funext q j
        simp only [fl_row, upd]
        repeat' split
        all_goals first | rfl | simp_all
      rw [e0] at hJ
      exact hJ
  refine hj58 ?_
  show fl_Tq _ 27 73 [some (.inr (.inr (.inl (13, 13)))), some (.inl x), some (.inl y), some (.inl z), some (.inl ((c0_bplace_v f (f 13 3)) * (3 : Int32)))] [] (fl_row (fl_row f 14 (upd (upd (upd (f 14) ((c0_bplace_v f (f 13 3)).toInt.toNat * 3) x) ((c0_bplace_v f (f 13 3)).toInt.toNat * 3 + 1) y) ((c0_bplace_v f (f 13 3)).toInt.toNat * 3 + 2) z)) 13 (upd (upd (f 13) 3 (c0_badd_j48_0 f x y z)) 2 (c0_badd_j48_1 f x y z)), l) _
  exact fl_Tq.ret rfl rfl rfl k
noncomputable def c0_tplace_j12_0 (f : t2_F) (x : Int32) : Int32 := if ((f 16 2) + x).toInt < (f 16 0).toInt then (f 16 2) + x else ((f 16 2) + x) - (f 16 0)
noncomputable def c0_tplace_v (f : t2_F) (x : Int32) : Int32 := c0_tplace_j12_0 f x
theorem c0_tplace_q {L : Nat} {xs : Nat → Int32} {f : t2_F} {l : t2_L} {Q : Option fl_V → fl_M → Prop} {x : Int32}  (k : Q (some (.inl (c0_tplace_v f x))) (f, l)) : fl_Tq (pw_P L xs) 29 0 (fl_args (am_mxl (pw_P L xs) 29) [.inr (.inr (.inl (16, 16))), .inl x]) [] (f, l) Q := by
  refine fl_Tq.stp (pc' := 1) (lv' := [some (.inr (.inr (.inl (16, 16)))), some (.inl x), none]) (st' := [.inr (.inr (.inl (16, 16)))]) (m' := (f, l)) rfl rfl (fl_bo rfl) rfl ?_
  refine fl_Tq.gfV (k := 2) (v := f 16 2) rfl (fl_bo rfl) rfl rfl ?_
  refine fl_Tq.stp (pc' := 5) (lv' := [some (.inr (.inr (.inl (16, 16)))), some (.inl x), none]) (st' := [.inl x, .inl (f 16 2)]) (m' := (f, l)) rfl rfl (fl_bo rfl) rfl ?_
  refine fl_Tq.stp (pc' := 6) (lv' := [some (.inr (.inr (.inl (16, 16)))), some (.inl x), none]) (st' := [.inl ((f 16 2) + x)]) (m' := (f, l)) rfl rfl (fl_bo rfl) rfl ?_
  refine fl_Tq.stp (pc' := 7) (lv' := [some (.inr (.inr (.inl (16, 16)))), some (.inl x), some (.inl ((f 16 2) + x))]) (st' := []) (m' := (f, l)) rfl rfl (fl_bo rfl) rfl ?_
  refine fl_Tq.stp (pc' := 8) (lv' := [some (.inr (.inr (.inl (16, 16)))), some (.inl x), some (.inl ((f 16 2) + x))]) (st' := [.inl ((f 16 2) + x)]) (m' := (f, l)) rfl rfl (fl_bo rfl) rfl ?_
  refine fl_Tq.stp (pc' := 9) (lv' := [some (.inr (.inr (.inl (16, 16)))), some (.inl x), some (.inl ((f 16 2) + x))]) (st' := [.inr (.inr (.inl (16, 16))), .inl ((f 16 2) + x)]) (m' := (f, l)) rfl rfl (fl_bo rfl) rfl ?_
  refine fl_Tq.gfV (k := 0) (v := f 16 0) rfl (fl_bo rfl) rfl rfl ?_
  have hj59 : fl_Tq (pw_P L xs) 29 25 [some (.inr (.inr (.inl (16, 16)))), some (.inl x), some (.inl ((f 16 2) + x))] [.inl (c0_tplace_j12_0 f x)] (f, l) Q → fl_Tq (pw_P L xs) 29 12 [some (.inr (.inr (.inl (16, 16)))), some (.inl x), some (.inl ((f 16 2) + x))] [.inl (f 16 0), .inl ((f 16 2) + x)] (f, l) Q := by
    intro hJ
    by_cases h1 : ((f 16 2) + x).toInt < (f 16 0).toInt
    · refine fl_Tq.jt rfl (fl_bo rfl) (c2_lt_t h1) rfl ?_
      refine fl_Tq.stp (pc' := 25) (lv' := [some (.inr (.inr (.inl (16, 16)))), some (.inl x), some (.inl ((f 16 2) + x))]) (st' := [.inl ((f 16 2) + x)]) (m' := (f, l)) rfl rfl (fl_bo rfl) rfl ?_
      have e0 : (c0_tplace_j12_0 f x) = (f 16 2) + x := by simp only [c0_tplace_j12_0, if_pos h1]
      rw [e0] at hJ
      exact hJ
    · refine fl_Tq.jf rfl (fl_bo rfl) (c2_lt_f h1) rfl ?_
      refine fl_Tq.stp (pc' := 16) (lv' := [some (.inr (.inr (.inl (16, 16)))), some (.inl x), some (.inl ((f 16 2) + x))]) (st' := [.inl ((f 16 2) + x)]) (m' := (f, l)) rfl rfl (fl_bo rfl) rfl ?_
      refine fl_Tq.stp (pc' := 17) (lv' := [some (.inr (.inr (.inl (16, 16)))), some (.inl x), some (.inl ((f 16 2) + x))]) (st' := [.inr (.inr (.inl (16, 16))), .inl ((f 16 2) + x)]) (m' := (f, l)) rfl rfl (fl_bo rfl) rfl ?_
      refine fl_Tq.gfV (k := 0) (v := f 16 0) rfl (fl_bo rfl) rfl rfl ?_
      refine fl_Tq.stp (pc' := 21) (lv' := [some (.inr (.inr (.inl (16, 16)))), some (.inl x), some (.inl ((f 16 2) + x))]) (st' := [.inl (((f 16 2) + x) - (f 16 0))]) (m' := (f, l)) rfl rfl (fl_bo rfl) rfl ?_
      refine fl_Tq.stp (pc' := 25) (lv' := [some (.inr (.inr (.inl (16, 16)))), some (.inl x), some (.inl ((f 16 2) + x))]) (st' := [.inl (((f 16 2) + x) - (f 16 0))]) (m' := (f, l)) rfl rfl (fl_bo rfl) rfl ?_
      have e0 : (c0_tplace_j12_0 f x) = ((f 16 2) + x) - (f 16 0) := by simp only [c0_tplace_j12_0, if_neg h1]
      rw [e0] at hJ
      exact hJ
  refine hj59 ?_
  show fl_Tq _ 29 25 [some (.inr (.inr (.inl (16, 16)))), some (.inl x), some (.inl ((f 16 2) + x))] [.inl (c0_tplace_j12_0 f x)] (f, l) _
  exact fl_Tq.ret rfl rfl rfl k
theorem c0_tplace_b {f : t2_F} {x : Int32} (hl : f 16 0 = (32 : Int32) ∧ (0 ≤ (f 16 2).toInt ∧ (f 16 2).toInt ≤ 31) ∧ (0 ≤ (f 16 3).toInt ∧ (f 16 3).toInt ≤ 32)) (hx : 0 ≤ x.toInt ∧ x.toInt ≤ 32) : 0 ≤ (c0_tplace_v f x).toInt ∧ (c0_tplace_v f x).toInt ≤ 31 := by
  have e : (32 : Int32).toInt = 32 := by decide +kernel
  obtain ⟨h1, h2, h3⟩ := hl
  have e2 : (f 16 2 + x).toInt = (f 16 2).toInt + x.toInt := at_add32 (by omega) (by omega)
  unfold c0_tplace_v c0_tplace_j12_0
  rw [h1]
  split
  · omega
  · rename_i h
    rw [at_sub32 (by omega) (by omega)]
    omega
noncomputable def c0_tadd_j48_0 (f : t2_F) (x y z : Int32) : Int32 := if (f 16 3).toInt < (f 16 0).toInt then (f 16 3) + (1 : Int32) else f 16 3
noncomputable def c0_tadd_j48_1 (f : t2_F) (x y z : Int32) : Int32 := if (f 16 3).toInt < (f 16 0).toInt then f 16 2 else c0_tplace_v (fl_row f 17 (upd (upd (upd (f 17) ((c0_tplace_v f (f 16 3)).toInt.toNat * 3) x) ((c0_tplace_v f (f 16 3)).toInt.toNat * 3 + 1) y) ((c0_tplace_v f (f 16 3)).toInt.toNat * 3 + 2) z)) (1 : Int32)
noncomputable def c0_tadd_m (f : t2_F) (x y z : Int32) : t2_F := fl_row (fl_row f 17 (upd (upd (upd (f 17) ((c0_tplace_v f (f 16 3)).toInt.toNat * 3) x) ((c0_tplace_v f (f 16 3)).toInt.toNat * 3 + 1) y) ((c0_tplace_v f (f 16 3)).toInt.toNat * 3 + 2) z)) 16 (upd (upd (f 16) 3 (c0_tadd_j48_0 f x y z)) 2 (c0_tadd_j48_1 f x y z))
theorem c0_tadd_fr {f : t2_F} {x y z : Int32} {p : Nat} (e0 : p ≠ 17) (e1 : p ≠ 16) : c0_tadd_m f x y z p = f p := by
  unfold c0_tadd_m
  repeat' split
  all_goals first | rfl | simp only [fl_row_ne e0, fl_row_ne e1]
theorem c0_tadd_q {L : Nat} {xs : Nat → Int32} {f : t2_F} {l : t2_L} {Q : Option fl_V → fl_M → Prop} {x y z : Int32} (hl : f 16 0 = (32 : Int32) ∧ (0 ≤ (f 16 2).toInt ∧ (f 16 2).toInt ≤ 31) ∧ (0 ≤ (f 16 3).toInt ∧ (f 16 3).toInt ≤ 32)) (k : Q none (c0_tadd_m f x y z, l)) : fl_Tq (pw_P L xs) 27 0 (fl_args (am_mxl (pw_P L xs) 27) [.inr (.inr (.inl (16, 16))), .inl x, .inl y, .inl z]) [] (f, l) Q := by
  refine fl_Tq.stp (pc' := 1) (lv' := [some (.inr (.inr (.inl (16, 16)))), some (.inl x), some (.inl y), some (.inl z), none]) (st' := [.inr (.inr (.inl (16, 16)))]) (m' := (f, l)) rfl rfl (fl_bo rfl) rfl ?_
  refine fl_Tq.stp (pc' := 2) (lv' := [some (.inr (.inr (.inl (16, 16)))), some (.inl x), some (.inl y), some (.inl z), none]) (st' := [.inr (.inr (.inl (16, 16))), .inr (.inr (.inl (16, 16)))]) (m' := (f, l)) rfl rfl (fl_bo rfl) rfl ?_
  refine fl_Tq.gfV (k := 3) (v := f 16 3) rfl (fl_bo rfl) rfl rfl ?_
  refine fl_Tq.cal rfl rfl (fl_bo rfl) rfl ?_
  refine c0_tplace_q  ?_
  show fl_Tq _ 27 8 [some (.inr (.inr (.inl (16, 16)))), some (.inl x), some (.inl y), some (.inl z), none] [.inl (c0_tplace_v f (f 16 3))] (f, l) _
  refine fl_Tq.cI (c := (3 : Int32)) rfl (by decide +kernel) (fl_bo rfl) ?_
  refine fl_Tq.stp (pc' := 10) (lv' := [some (.inr (.inr (.inl (16, 16)))), some (.inl x), some (.inl y), some (.inl z), none]) (st' := [.inl ((c0_tplace_v f (f 16 3)) * (3 : Int32))]) (m' := (f, l)) rfl rfl (fl_bo rfl) rfl ?_
  refine fl_Tq.stp (pc' := 12) (lv' := [some (.inr (.inr (.inl (16, 16)))), some (.inl x), some (.inl y), some (.inl z), some (.inl ((c0_tplace_v f (f 16 3)) * (3 : Int32)))]) (st' := []) (m' := (f, l)) rfl rfl (fl_bo rfl) rfl ?_
  refine fl_Tq.stp (pc' := 13) (lv' := [some (.inr (.inr (.inl (16, 16)))), some (.inl x), some (.inl y), some (.inl z), some (.inl ((c0_tplace_v f (f 16 3)) * (3 : Int32)))]) (st' := [.inr (.inr (.inl (16, 16)))]) (m' := (f, l)) rfl rfl (fl_bo rfl) rfl ?_
  refine fl_Tq.stp (pc' := 16) (lv' := [some (.inr (.inr (.inl (16, 16)))), some (.inl x), some (.inl y), some (.inl z), some (.inl ((c0_tplace_v f (f 16 3)) * (3 : Int32)))]) (st' := [.inr (.inr (.inl (17, 17)))]) (m' := (f, l)) rfl rfl (fl_bo rfl) rfl ?_
  refine fl_Tq.stp (pc' := 18) (lv' := [some (.inr (.inr (.inl (16, 16)))), some (.inl x), some (.inl y), some (.inl z), some (.inl ((c0_tplace_v f (f 16 3)) * (3 : Int32)))]) (st' := [.inl ((c0_tplace_v f (f 16 3)) * (3 : Int32)), .inr (.inr (.inl (17, 17)))]) (m' := (f, l)) rfl rfl (fl_bo rfl) rfl ?_
  refine fl_Tq.stp (pc' := 19) (lv' := [some (.inr (.inr (.inl (16, 16)))), some (.inl x), some (.inl y), some (.inl z), some (.inl ((c0_tplace_v f (f 16 3)) * (3 : Int32)))]) (st' := [.inl x, .inl ((c0_tplace_v f (f 16 3)) * (3 : Int32)), .inr (.inr (.inl (17, 17)))]) (m' := (f, l)) rfl rfl (fl_bo rfl) rfl ?_
  refine fl_Tq.svV (p := 17) (τ := 17) (n := 96) (z := (0, 0, 0)) (k := (c0_tplace_v f (f 16 3)).toInt.toNat * 3) (m' := (fl_row f 17 (upd (f 17) ((c0_tplace_v f (f 16 3)).toInt.toNat * 3) x), l)) rfl (fl_bo rfl) rfl (t2_im (have hb := (c0_tplace_b hl hl.2.2); t2_nn hb.1) (by decide +kernel) (by have hb := (c0_tplace_b hl hl.2.2); omega)) (by have hb := (c0_tplace_b hl hl.2.2); omega) (t2_upn rfl) ?_
  refine fl_Tq.stp (pc' := 21) (lv' := [some (.inr (.inr (.inl (16, 16)))), some (.inl x), some (.inl y), some (.inl z), some (.inl ((c0_tplace_v f (f 16 3)) * (3 : Int32)))]) (st' := [.inr (.inr (.inl (16, 16)))]) (m' := (fl_row f 17 (upd (f 17) ((c0_tplace_v f (f 16 3)).toInt.toNat * 3) x), l)) rfl rfl (fl_bo rfl) rfl ?_
  refine fl_Tq.stp (pc' := 24) (lv' := [some (.inr (.inr (.inl (16, 16)))), some (.inl x), some (.inl y), some (.inl z), some (.inl ((c0_tplace_v f (f 16 3)) * (3 : Int32)))]) (st' := [.inr (.inr (.inl (17, 17)))]) (m' := (fl_row f 17 (upd (f 17) ((c0_tplace_v f (f 16 3)).toInt.toNat * 3) x), l)) rfl rfl (fl_bo rfl) rfl ?_
  refine fl_Tq.stp (pc' := 26) (lv' := [some (.inr (.inr (.inl (16, 16)))), some (.inl x), some (.inl y), some (.inl z), some (.inl ((c0_tplace_v f (f 16 3)) * (3 : Int32)))]) (st' := [.inl ((c0_tplace_v f (f 16 3)) * (3 : Int32)), .inr (.inr (.inl (17, 17)))]) (m' := (fl_row f 17 (upd (f 17) ((c0_tplace_v f (f 16 3)).toInt.toNat * 3) x), l)) rfl rfl (fl_bo rfl) rfl ?_
  refine fl_Tq.cI (c := (1 : Int32)) rfl (by decide +kernel) (fl_bo rfl) ?_
  refine fl_Tq.stp (pc' := 28) (lv' := [some (.inr (.inr (.inl (16, 16)))), some (.inl x), some (.inl y), some (.inl z), some (.inl ((c0_tplace_v f (f 16 3)) * (3 : Int32)))]) (st' := [.inl (((c0_tplace_v f (f 16 3)) * (3 : Int32)) + (1 : Int32)), .inr (.inr (.inl (17, 17)))]) (m' := (fl_row f 17 (upd (f 17) ((c0_tplace_v f (f 16 3)).toInt.toNat * 3) x), l)) rfl rfl (fl_bo rfl) rfl ?_
  refine fl_Tq.stp (pc' := 29) (lv' := [some (.inr (.inr (.inl (16, 16)))), some (.inl x), some (.inl y), some (.inl z), some (.inl ((c0_tplace_v f (f 16 3)) * (3 : Int32)))]) (st' := [.inl y, .inl (((c0_tplace_v f (f 16 3)) * (3 : Int32)) + (1 : Int32)), .inr (.inr (.inl (17, 17)))]) (m' := (fl_row f 17 (upd (f 17) ((c0_tplace_v f (f 16 3)).toInt.toNat * 3) x), l)) rfl rfl (fl_bo rfl) rfl ?_
  refine fl_Tq.svV (p := 17) (τ := 17) (n := 96) (z := (0, 0, 0)) (k := (c0_tplace_v f (f 16 3)).toInt.toNat * 3 + 1) (m' := (fl_row f 17 (upd (upd (f 17) ((c0_tplace_v f (f 16 3)).toInt.toNat * 3) x) ((c0_tplace_v f (f 16 3)).toInt.toNat * 3 + 1) y), l)) rfl (fl_bo rfl) rfl (t2_ia (t2_im (have hb := (c0_tplace_b hl hl.2.2); t2_nn hb.1) (by decide +kernel) (by have hb := (c0_tplace_b hl hl.2.2); omega)) (by decide +kernel) (by have hb := (c0_tplace_b hl hl.2.2); omega)) (by have hb := (c0_tplace_b hl hl.2.2); omega) (t2_upr) ?_
  refine fl_Tq.stp (pc' := 31) (lv' := [some (.inr (.inr (.inl (16, 16)))), some (.inl x), some (.inl y), some (.inl z), some (.inl ((c0_tplace_v f (f 16 3)) * (3 : Int32)))]) (st' := [.inr (.inr (.inl (16, 16)))]) (m' := (fl_row f 17 (upd (upd (f 17) ((c0_tplace_v f (f 16 3)).toInt.toNat * 3) x) ((c0_tplace_v f (f 16 3)).toInt.toNat * 3 + 1) y), l)) rfl rfl (fl_bo rfl) rfl ?_
  refine fl_Tq.stp (pc' := 34) (lv' := [some (.inr (.inr (.inl (16, 16)))), some (.inl x), some (.inl y), some (.inl z), some (.inl ((c0_tplace_v f (f 16 3)) * (3 : Int32)))]) (st' := [.inr (.inr (.inl (17, 17)))]) (m' := (fl_row f 17 (upd (upd (f 17) ((c0_tplace_v f (f 16 3)).toInt.toNat * 3) x) ((c0_tplace_v f (f 16 3)).toInt.toNat * 3 + 1) y), l)) rfl rfl (fl_bo rfl) rfl ?_
  refine fl_Tq.stp (pc' := 36) (lv' := [some (.inr (.inr (.inl (16, 16)))), some (.inl x), some (.inl y), some (.inl z), some (.inl ((c0_tplace_v f (f 16 3)) * (3 : Int32)))]) (st' := [.inl ((c0_tplace_v f (f 16 3)) * (3 : Int32)), .inr (.inr (.inl (17, 17)))]) (m' := (fl_row f 17 (upd (upd (f 17) ((c0_tplace_v f (f 16 3)).toInt.toNat * 3) x) ((c0_tplace_v f (f 16 3)).toInt.toNat * 3 + 1) y), l)) rfl rfl (fl_bo rfl) rfl ?_
  refine fl_Tq.cI (c := (2 : Int32)) rfl (by decide +kernel) (fl_bo rfl) ?_
  refine fl_Tq.stp (pc' := 38) (lv' := [some (.inr (.inr (.inl (16, 16)))), some (.inl x), some (.inl y), some (.inl z), some (.inl ((c0_tplace_v f (f 16 3)) * (3 : Int32)))]) (st' := [.inl (((c0_tplace_v f (f 16 3)) * (3 : Int32)) + (2 : Int32)), .inr (.inr (.inl (17, 17)))]) (m' := (fl_row f 17 (upd (upd (f 17) ((c0_tplace_v f (f 16 3)).toInt.toNat * 3) x) ((c0_tplace_v f (f 16 3)).toInt.toNat * 3 + 1) y), l)) rfl rfl (fl_bo rfl) rfl ?_
  refine fl_Tq.stp (pc' := 39) (lv' := [some (.inr (.inr (.inl (16, 16)))), some (.inl x), some (.inl y), some (.inl z), some (.inl ((c0_tplace_v f (f 16 3)) * (3 : Int32)))]) (st' := [.inl z, .inl (((c0_tplace_v f (f 16 3)) * (3 : Int32)) + (2 : Int32)), .inr (.inr (.inl (17, 17)))]) (m' := (fl_row f 17 (upd (upd (f 17) ((c0_tplace_v f (f 16 3)).toInt.toNat * 3) x) ((c0_tplace_v f (f 16 3)).toInt.toNat * 3 + 1) y), l)) rfl rfl (fl_bo rfl) rfl ?_
  refine fl_Tq.svV (p := 17) (τ := 17) (n := 96) (z := (0, 0, 0)) (k := (c0_tplace_v f (f 16 3)).toInt.toNat * 3 + 2) (m' := (fl_row f 17 (upd (upd (upd (f 17) ((c0_tplace_v f (f 16 3)).toInt.toNat * 3) x) ((c0_tplace_v f (f 16 3)).toInt.toNat * 3 + 1) y) ((c0_tplace_v f (f 16 3)).toInt.toNat * 3 + 2) z), l)) rfl (fl_bo rfl) rfl (t2_ia (t2_im (have hb := (c0_tplace_b hl hl.2.2); t2_nn hb.1) (by decide +kernel) (by have hb := (c0_tplace_b hl hl.2.2); omega)) (by decide +kernel) (by have hb := (c0_tplace_b hl hl.2.2); omega)) (by have hb := (c0_tplace_b hl hl.2.2); omega) (t2_upr) ?_
  refine fl_Tq.stp (pc' := 41) (lv' := [some (.inr (.inr (.inl (16, 16)))), some (.inl x), some (.inl y), some (.inl z), some (.inl ((c0_tplace_v f (f 16 3)) * (3 : Int32)))]) (st' := [.inr (.inr (.inl (16, 16)))]) (m' := (fl_row f 17 (upd (upd (upd (f 17) ((c0_tplace_v f (f 16 3)).toInt.toNat * 3) x) ((c0_tplace_v f (f 16 3)).toInt.toNat * 3 + 1) y) ((c0_tplace_v f (f 16 3)).toInt.toNat * 3 + 2) z), l)) rfl rfl (fl_bo rfl) rfl ?_
  refine fl_Tq.gfV (k := 3) (v := f 16 3) rfl (fl_bo rfl) rfl (by simp only [fl_row_ne (by decide : 16 ≠ 17)]) ?_
  refine fl_Tq.stp (pc' := 45) (lv' := [some (.inr (.inr (.inl (16, 16)))), some (.inl x), some (.inl y), some (.inl z), some (.inl ((c0_tplace_v f (f 16 3)) * (3 : Int32)))]) (st' := [.inr (.inr (.inl (16, 16))), .inl (f 16 3)]) (m' := (fl_row f 17 (upd (upd (upd (f 17) ((c0_tplace_v f (f 16 3)).toInt.toNat * 3) x) ((c0_tplace_v f (f 16 3)).toInt.toNat * 3 + 1) y) ((c0_tplace_v f (f 16 3)).toInt.toNat * 3 + 2) z), l)) rfl rfl (fl_bo rfl) rfl ?_
  refine fl_Tq.gfV (k := 0) (v := f 16 0) rfl (fl_bo rfl) rfl (by simp only [fl_row_ne (by decide : 16 ≠ 17)]) ?_
  have hj60 : fl_Tq (pw_P L xs) 27 73 [some (.inr (.inr (.inl (16, 16)))), some (.inl x), some (.inl y), some (.inl z), some (.inl ((c0_tplace_v f (f 16 3)) * (3 : Int32)))] [] (fl_row (fl_row f 17 (upd (upd (upd (f 17) ((c0_tplace_v f (f 16 3)).toInt.toNat * 3) x) ((c0_tplace_v f (f 16 3)).toInt.toNat * 3 + 1) y) ((c0_tplace_v f (f 16 3)).toInt.toNat * 3 + 2) z)) 16 (upd (upd (f 16) 3 (c0_tadd_j48_0 f x y z)) 2 (c0_tadd_j48_1 f x y z)), l) Q → fl_Tq (pw_P L xs) 27 48 [some (.inr (.inr (.inl (16, 16)))), some (.inl x), some (.inl y), some (.inl z), some (.inl ((c0_tplace_v f (f 16 3)) * (3 : Int32)))] [.inl (f 16 0), .inl (f 16 3)] (fl_row f 17 (upd (upd (upd (f 17) ((c0_tplace_v f (f 16 3)).toInt.toNat * 3) x) ((c0_tplace_v f (f 16 3)).toInt.toNat * 3 + 1) y) ((c0_tplace_v f (f 16 3)).toInt.toNat * 3 + 2) z), l) Q := by
    intro hJ
    by_cases h1 : (f 16 3).toInt < (f 16 0).toInt
    · refine fl_Tq.jf rfl (fl_bo rfl) (c2_ge_f h1) rfl ?_
      refine fl_Tq.stp (pc' := 52) (lv' := [some (.inr (.inr (.inl (16, 16)))), some (.inl x), some (.inl y), some (.inl z), some (.inl ((c0_tplace_v f (f 16 3)) * (3 : Int32)))]) (st' := [.inr (.inr (.inl (16, 16)))]) (m' := (fl_row f 17 (upd (upd (upd (f 17) ((c0_tplace_v f (f 16 3)).toInt.toNat * 3) x) ((c0_tplace_v f (f 16 3)).toInt.toNat * 3 + 1) y) ((c0_tplace_v f (f 16 3)).toInt.toNat * 3 + 2) z), l)) rfl rfl (fl_bo rfl) rfl ?_
      refine fl_Tq.stp (pc' := 53) (lv' := [some (.inr (.inr (.inl (16, 16)))), some (.inl x), some (.inl y), some (.inl z), some (.inl ((c0_tplace_v f (f 16 3)) * (3 : Int32)))]) (st' := [.inr (.inr (.inl (16, 16))), .inr (.inr (.inl (16, 16)))]) (m' := (fl_row f 17 (upd (upd (upd (f 17) ((c0_tplace_v f (f 16 3)).toInt.toNat * 3) x) ((c0_tplace_v f (f 16 3)).toInt.toNat * 3 + 1) y) ((c0_tplace_v f (f 16 3)).toInt.toNat * 3 + 2) z), l)) rfl rfl (fl_bo rfl) rfl ?_
      refine fl_Tq.gfV (k := 3) (v := f 16 3) rfl (fl_bo rfl) rfl (by simp only [fl_row_ne (by decide : 16 ≠ 17)]) ?_
      refine fl_Tq.cI (c := (1 : Int32)) rfl (by decide +kernel) (fl_bo rfl) ?_
      refine fl_Tq.stp (pc' := 58) (lv' := [some (.inr (.inr (.inl (16, 16)))), some (.inl x), some (.inl y), some (.inl z), some (.inl ((c0_tplace_v f (f 16 3)) * (3 : Int32)))]) (st' := [.inl ((f 16 3) + (1 : Int32)), .inr (.inr (.inl (16, 16)))]) (m' := (fl_row f 17 (upd (upd (upd (f 17) ((c0_tplace_v f (f 16 3)).toInt.toNat * 3) x) ((c0_tplace_v f (f 16 3)).toInt.toNat * 3 + 1) y) ((c0_tplace_v f (f 16 3)).toInt.toNat * 3 + 2) z), l)) rfl rfl (fl_bo rfl) rfl ?_
      refine fl_Tq.pfV (k := 3) (m' := (fl_row (fl_row f 17 (upd (upd (upd (f 17) ((c0_tplace_v f (f 16 3)).toInt.toNat * 3) x) ((c0_tplace_v f (f 16 3)).toInt.toNat * 3 + 1) y) ((c0_tplace_v f (f 16 3)).toInt.toNat * 3 + 2) z)) 16 (upd (f 16) 3 ((f 16 3) + (1 : Int32))), l)) rfl (fl_bo rfl) rfl (t2_upn (by rw [fl_row_ne (by decide : 16 ≠ 17)])) ?_
      refine fl_Tq.stp (pc' := 73) (lv' := [some (.inr (.inr (.inl (16, 16)))), some (.inl x), some (.inl y), some (.inl z), some (.inl ((c0_tplace_v f (f 16 3)) * (3 : Int32)))]) (st' := []) (m' := (fl_row (fl_row f 17 (upd (upd (upd (f 17) ((c0_tplace_v f (f 16 3)).toInt.toNat * 3) x) ((c0_tplace_v f (f 16 3)).toInt.toNat * 3 + 1) y) ((c0_tplace_v f (f 16 3)).toInt.toNat * 3 + 2) z)) 16 (upd (f 16) 3 ((f 16 3) + (1 : Int32))), l)) rfl rfl (fl_bo rfl) rfl ?_
      have e0 : (fl_row (fl_row f 17 (upd (upd (upd (f 17) ((c0_tplace_v f (f 16 3)).toInt.toNat * 3) x) ((c0_tplace_v f (f 16 3)).toInt.toNat * 3 + 1) y) ((c0_tplace_v f (f 16 3)).toInt.toNat * 3 + 2) z)) 16 (upd (upd (f 16) 3 (c0_tadd_j48_0 f x y z)) 2 (c0_tadd_j48_1 f x y z))) = fl_row (fl_row f 17 (upd (upd (upd (f 17) ((c0_tplace_v f (f 16 3)).toInt.toNat * 3) x) ((c0_tplace_v f (f 16 3)).toInt.toNat * 3 + 1) y) ((c0_tplace_v f (f 16 3)).toInt.toNat * 3 + 2) z)) 16 (upd (f 16) 3 ((f 16 3) + (1 : Int32))) := by
        simp only [c0_tadd_j48_0, c0_tadd_j48_1, if_pos h1]
        funext q j
        simp only [fl_row, upd]
        repeat' split
        all_goals first | rfl | simp_all
      rw [e0] at hJ
      exact hJ
    · refine fl_Tq.jt rfl (fl_bo rfl) (c2_ge_t h1) rfl ?_
      refine fl_Tq.stp (pc' := 65) (lv' := [some (.inr (.inr (.inl (16, 16)))), some (.inl x), some (.inl y), some (.inl z), some (.inl ((c0_tplace_v f (f 16 3)) * (3 : Int32)))]) (st' := [.inr (.inr (.inl (16, 16)))]) (m' := (fl_row f 17 (upd (upd (upd (f 17) ((c0_tplace_v f (f 16 3)).toInt.toNat * 3) x) ((c0_tplace_v f (f 16 3)).toInt.toNat * 3 + 1) y) ((c0_tplace_v f (f 16 3)).toInt.toNat * 3 + 2) z), l)) rfl rfl (fl_bo rfl) rfl ?_
      refine fl_Tq.stp (pc' := 66) (lv' := [some (.inr (.inr (.inl (16, 16)))), some (.inl x), some (.inl y), some (.inl z), some (.inl ((c0_tplace_v f (f 16 3)) * (3 : Int32)))]) (st' := [.inr (.inr (.inl (16, 16))), .inr (.inr (.inl (16, 16)))]) (m' := (fl_row f 17 (upd (upd (upd (f 17) ((c0_tplace_v f (f 16 3)).toInt.toNat * 3) x) ((c0_tplace_v f (f 16 3)).toInt.toNat * 3 + 1) y) ((c0_tplace_v f (f 16 3)).toInt.toNat * 3 + 2) z), l)) rfl rfl (fl_bo rfl) rfl ?_
      refine fl_Tq.cI (c := (1 : Int32)) rfl (by decide +kernel) (fl_bo rfl) ?_
      refine fl_Tq.cal rfl rfl (fl_bo rfl) rfl ?_
      refine c0_tplace_q  ?_
      show fl_Tq _ 27 70 [some (.inr (.inr (.inl (16, 16)))), some (.inl x), some (.inl y), some (.inl z), some (.inl ((c0_tplace_v f (f 16 3)) * (3 : Int32)))] [.inl (c0_tplace_v (fl_row f 17 (upd (upd (upd (f 17) ((c0_tplace_v f (f 16 3)).toInt.toNat * 3) x) ((c0_tplace_v f (f 16 3)).toInt.toNat * 3 + 1) y) ((c0_tplace_v f (f 16 3)).toInt.toNat * 3 + 2) z)) (1 : Int32)), .inr (.inr (.inl (16, 16)))] (fl_row f 17 (upd (upd (upd (f 17) ((c0_tplace_v f (f 16 3)).toInt.toNat * 3) x) ((c0_tplace_v f (f 16 3)).toInt.toNat * 3 + 1) y) ((c0_tplace_v f (f 16 3)).toInt.toNat * 3 + 2) z), l) _
      refine fl_Tq.pfV (k := 2) (m' := (fl_row (fl_row f 17 (upd (upd (upd (f 17) ((c0_tplace_v f (f 16 3)).toInt.toNat * 3) x) ((c0_tplace_v f (f 16 3)).toInt.toNat * 3 + 1) y) ((c0_tplace_v f (f 16 3)).toInt.toNat * 3 + 2) z)) 16 (upd (f 16) 2 (c0_tplace_v (fl_row f 17 (upd (upd (upd (f 17) ((c0_tplace_v f (f 16 3)).toInt.toNat * 3) x) ((c0_tplace_v f (f 16 3)).toInt.toNat * 3 + 1) y) ((c0_tplace_v f (f 16 3)).toInt.toNat * 3 + 2) z)) (1 : Int32))), l)) rfl (fl_bo rfl) rfl (t2_upn (by rw [fl_row_ne (by decide : 16 ≠ 17)])) ?_
      have e0 : (fl_row (fl_row f 17 (upd (upd (upd (f 17) ((c0_tplace_v f (f 16 3)).toInt.toNat * 3) x) ((c0_tplace_v f (f 16 3)).toInt.toNat * 3 + 1) y) ((c0_tplace_v f (f 16 3)).toInt.toNat * 3 + 2) z)) 16 (upd (upd (f 16) 3 (c0_tadd_j48_0 f x y z)) 2 (c0_tadd_j48_1 f x y z))) = fl_row (fl_row f 17 (upd (upd (upd (f 17) ((c0_tplace_v f (f 16 3)).toInt.toNat * 3) x) ((c0_tplace_v f (f 16 3)).toInt.toNat * 3 + 1) y) ((c0_tplace_v f (f 16 3)).toInt.toNat * 3 + 2) z)) 16 (upd (f 16) 2 (c0_tplace_v (fl_row f 17 (upd (upd (upd (f 17) ((c0_tplace_v f (f 16 3)).toInt.toNat * 3) x) ((c0_tplace_v f (f 16 3)).toInt.toNat * 3 + 1) y) ((c0_tplace_v f (f 16 3)).toInt.toNat * 3 + 2) z)) (1 : Int32))) := by
        simp only [c0_tadd_j48_0, c0_tadd_j48_1, if_neg h1]
        funext q j
        simp only [fl_row, upd]
        repeat' split
        all_goals first | rfl | simp_all
      rw [e0] at hJ
      exact hJ
  refine hj60 ?_
  show fl_Tq _ 27 73 [some (.inr (.inr (.inl (16, 16)))), some (.inl x), some (.inl y), some (.inl z), some (.inl ((c0_tplace_v f (f 16 3)) * (3 : Int32)))] [] (fl_row (fl_row f 17 (upd (upd (upd (f 17) ((c0_tplace_v f (f 16 3)).toInt.toNat * 3) x) ((c0_tplace_v f (f 16 3)).toInt.toNat * 3 + 1) y) ((c0_tplace_v f (f 16 3)).toInt.toNat * 3 + 2) z)) 16 (upd (upd (f 16) 3 (c0_tadd_j48_0 f x y z)) 2 (c0_tadd_j48_1 f x y z)), l) _
  exact fl_Tq.ret rfl rfl rfl k
