noncomputable def r_writeDown_b16_m (f : t2_F) (x : Int32) (k : Nat) : t2_F := fl_row f 280 (upd (f 280) (167 + k) (f 280 ((167 + k) + 2)))
theorem r_writeDown_b16_fr {f : t2_F} {x : Int32} {k : Nat} {p : Nat}  (e280 : p ≠ 280) : r_writeDown_b16_m f x k p = f p := by
  unfold r_writeDown_b16_m
  repeat' split
  all_goals first | rfl | simp only [fl_row_ne e280]
theorem r_writeDown_b16_w {f : t2_F} {x : Int32} {k : Nat} {w : Nat} (hkb : k < 46) (hw : w < 167 ∨ 213 ≤ w) : r_writeDown_b16_m f x k 280 w = f 280 w := by
  unfold r_writeDown_b16_m
  repeat' split
  all_goals first | rfl | simp only [fl_row_self, upd_ne (show w ≠ (167 + k) by omega)]
theorem r_writeDown_b16_q {L : Nat} {xs : Nat → Int32} {f : t2_F} {l : t2_L} {Q : Option fl_V → fl_M → Prop} {x : Int32} {k : Nat} {n : Nat} (hkn : k < n) (h46 : n ≤ 46)  (hS : fl_Tq (pw_P L xs) 229 16 [some (.inr (.inr (.inl (76, 277)))), some (.inl x), some (.inl (Int32.ofNat (167 + (k + 1))))] [] (r_writeDown_b16_m f x k, l) Q) : fl_Tq (pw_P L xs) 229 16 [some (.inr (.inr (.inl (76, 277)))), some (.inl x), some (.inl (Int32.ofNat (167 + k)))] [] (f, l) Q := by
  refine fl_Tq.stp (pc' := 17) (lv' := [some (.inr (.inr (.inl (76, 277)))), some (.inl x), some (.inl (Int32.ofNat (167 + k)))]) (st' := [.inl (Int32.ofNat (167 + k))]) (m' := (f, l)) rfl rfl (fl_bo rfl) rfl ?_
  refine fl_Tq.cS (c := (213 : Int32)) rfl (by decide +kernel) (fl_bo rfl) ?_
  refine fl_Tq.jf rfl (fl_bo rfl) (c2_ge_f (by have c213 : (213 : Int32).toInt = 213 := (by decide +kernel); have e2 : (Int32.ofNat (167 + k)).toInt = ((167 + k : Nat) : Int) := at_ofN (by omega); omega)) rfl ?_
  refine fl_Tq.stp (pc' := 24) (lv' := [some (.inr (.inr (.inl (76, 277)))), some (.inl x), some (.inl (Int32.ofNat (167 + k)))]) (st' := [.inr (.inr (.inl (76, 277)))]) (m' := (f, l)) rfl rfl (fl_bo rfl) rfl ?_
  refine fl_Tq.stp (pc' := 27) (lv' := [some (.inr (.inr (.inl (76, 277)))), some (.inl x), some (.inl (Int32.ofNat (167 + k)))]) (st' := [.inr (.inr (.inl (79, 280)))]) (m' := (f, l)) rfl rfl (fl_bo rfl) rfl ?_
  refine fl_Tq.stp (pc' := 28) (lv' := [some (.inr (.inr (.inl (76, 277)))), some (.inl x), some (.inl (Int32.ofNat (167 + k)))]) (st' := [.inl (Int32.ofNat (167 + k)), .inr (.inr (.inl (79, 280)))]) (m' := (f, l)) rfl rfl (fl_bo rfl) rfl ?_
  refine fl_Tq.stp (pc' := 29) (lv' := [some (.inr (.inr (.inl (76, 277)))), some (.inl x), some (.inl (Int32.ofNat (167 + k)))]) (st' := [.inr (.inr (.inl (76, 277))), .inl (Int32.ofNat (167 + k)), .inr (.inr (.inl (79, 280)))]) (m' := (f, l)) rfl rfl (fl_bo rfl) rfl ?_
  refine fl_Tq.stp (pc' := 32) (lv' := [some (.inr (.inr (.inl (76, 277)))), some (.inl x), some (.inl (Int32.ofNat (167 + k)))]) (st' := [.inr (.inr (.inl (79, 280))), .inl (Int32.ofNat (167 + k)), .inr (.inr (.inl (79, 280)))]) (m' := (f, l)) rfl rfl (fl_bo rfl) rfl ?_
  refine fl_Tq.stp (pc' := 33) (lv' := [some (.inr (.inr (.inl (76, 277)))), some (.inl x), some (.inl (Int32.ofNat (167 + k)))]) (st' := [.inl (Int32.ofNat (167 + k)), .inr (.inr (.inl (79, 280))), .inl (Int32.ofNat (167 + k)), .inr (.inr (.inl (79, 280)))]) (m' := (f, l)) rfl rfl (fl_bo rfl) rfl ?_
  refine fl_Tq.cI (c := (2 : Int32)) rfl (by decide +kernel) (fl_bo rfl) ?_
  refine fl_Tq.stp (pc' := 35) (lv' := [some (.inr (.inr (.inl (76, 277)))), some (.inl x), some (.inl (Int32.ofNat (167 + k)))]) (st' := [.inl ((Int32.ofNat (167 + k)) + (2 : Int32)), .inr (.inr (.inl (79, 280))), .inl (Int32.ofNat (167 + k)), .inr (.inr (.inl (79, 280)))]) (m' := (f, l)) rfl rfl (fl_bo rfl) rfl ?_
  refine fl_Tq.ldV (p := 280) (τ := 79) (n := 29780) (z := (0, 0, 0)) (k := (167 + k) + 2) (v := f 280 ((167 + k) + 2)) rfl (fl_bo rfl) rfl (t2_ia (at_ofN (by omega)) (by decide +kernel) (by have c24 : (24 : Int32).toInt = 24 := (by decide +kernel); omega)) (by have c24 : (24 : Int32).toInt = 24 := (by decide +kernel); omega) rfl ?_
  refine fl_Tq.svV (p := 280) (τ := 79) (n := 29780) (z := (0, 0, 0)) (k := (167 + k)) (m' := (fl_row f 280 (upd (f 280) (167 + k) (f 280 ((167 + k) + 2))), l)) rfl (fl_bo rfl) rfl (at_ofN (by omega)) (by omega) (t2_upn rfl) ?_
  refine fl_Tq.stp (pc' := 40) (lv' := [some (.inr (.inr (.inl (76, 277)))), some (.inl x), some (.inl ((Int32.ofNat (167 + k)) + (1 : Int32)))]) (st' := []) (m' := (fl_row f 280 (upd (f 280) (167 + k) (f 280 ((167 + k) + 2))), l)) rfl rfl (fl_bo rfl) rfl ?_
  refine fl_Tq.stp (pc' := 16) (lv' := [some (.inr (.inr (.inl (76, 277)))), some (.inl x), some (.inl ((Int32.ofNat (167 + k)) + (1 : Int32)))]) (st' := []) (m' := (fl_row f 280 (upd (f 280) (167 + k) (f 280 ((167 + k) + 2))), l)) rfl rfl (fl_bo rfl) rfl ?_
  have em : r_writeDown_b16_m f x k = fl_row f 280 (upd (f 280) (167 + k) (f 280 ((167 + k) + 2))) := rfl
  have ek : Int32.ofNat (167 + (k + 1)) = (Int32.ofNat (167 + k)) + (1 : Int32) := (t2_k1 (167 + k)).symm
  rw [em, ek] at hS
  exact hS
noncomputable def r_writeDown_f16 (f : t2_F) (x : Int32) : Nat → t2_F
  | 0 => f
  | k + 1 => r_writeDown_b16_m (r_writeDown_f16 f x k) x k
theorem r_writeDown_f16_fr {f : t2_F} {x : Int32} {p : Nat} : ∀ {k : Nat}  (e280 : p ≠ 280), r_writeDown_f16 f x k p = f p := by
  intro k
  induction k with
  | zero => intros; rfl
  | succ k ih =>
    intro  e280
    exact (r_writeDown_b16_fr  e280).trans (ih  e280)
theorem r_writeDown_f16_w {f : t2_F} {x : Int32} {w : Nat} : ∀ {k : Nat} (hkb : k ≤ 46) (hw : w < 167 ∨ 213 ≤ w), r_writeDown_f16 f x k 280 w = f 280 w := by
  intro k
  induction k with
  | zero => intros; rfl
  | succ k ih =>
    intro hkb hw
    exact (r_writeDown_b16_w (by omega) hw).trans (ih (by omega) hw)
noncomputable def r_writeDown_m (f : t2_F) (x : Int32) : t2_F := if (f 280 20).toInt = (24 : Int32).toInt then fl_row (r_writeDown_f16 f x 46) 280 (upd (upd (upd (upd ((r_writeDown_f16 f x 46) 280) 20 ((f 280 20) - (1 : Int32))) (167 + (2 * (((f 280 20).toInt.toNat) - 1))) (f 280 7)) ((167 + (2 * (((f 280 20).toInt.toNat) - 1))) + 1) x) 20 (((f 280 20) - (1 : Int32)) + (1 : Int32))) else fl_row f 280 (upd (upd (upd (f 280) (167 + (2 * ((f 280 20).toInt.toNat))) (f 280 7)) ((167 + (2 * ((f 280 20).toInt.toNat))) + 1) x) 20 ((f 280 20) + (1 : Int32)))
theorem r_writeDown_fr {f : t2_F} {x : Int32} {p : Nat}  (e280 : p ≠ 280) : r_writeDown_m f x p = f p := by
  unfold r_writeDown_m
  repeat' split
  all_goals first | rfl | simp only [fl_row_ne e280, r_writeDown_f16_fr (k := 46) e280]
theorem r_writeDown_w {f : t2_F} {x : Int32} {w : Nat} (hb : 0 ≤ (f 280 20).toInt ∧ (f 280 20).toInt ≤ 24) (hw : w ≠ 20 ∧ (w < 167 ∨ 217 ≤ w)) : r_writeDown_m f x 280 w = f 280 w := by
  have c24 : (24 : Int32).toInt = 24 := by decide +kernel
  unfold r_writeDown_m
  repeat' split
  all_goals first | rfl | simp only [fl_row_self, upd_ne (show w ≠ 20 by omega), upd_ne (show w ≠ 167 + (2 * (((f 280 20).toInt.toNat) - 1)) by omega), upd_ne (show w ≠ (167 + (2 * (((f 280 20).toInt.toNat) - 1))) + 1 by omega), upd_ne (show w ≠ 167 + (2 * ((f 280 20).toInt.toNat)) by omega), upd_ne (show w ≠ (167 + (2 * ((f 280 20).toInt.toNat))) + 1 by omega), r_writeDown_f16_w (f := f) (k := 46) (w := w) (by omega) (by omega)]
theorem r_writeDown_q {L : Nat} {xs : Nat → Int32} {f : t2_F} {l : t2_L} {Q : Option fl_V → fl_M → Prop} {x : Int32} (hb : 0 ≤ (f 280 20).toInt ∧ (f 280 20).toInt ≤ 24) (k : Q none (r_writeDown_m f x, l)) : fl_Tq (pw_P L xs) 229 0 (fl_args (am_mxl (pw_P L xs) 229) [.inr (.inr (.inl (76, 277))), .inl x]) [] (f, l) Q := by
  refine fl_Tq.stp (pc' := 1) (lv' := [some (.inr (.inr (.inl (76, 277)))), some (.inl x), none]) (st' := [.inr (.inr (.inl (76, 277)))]) (m' := (f, l)) rfl rfl (fl_bo rfl) rfl ?_
  refine fl_Tq.stp (pc' := 4) (lv' := [some (.inr (.inr (.inl (76, 277)))), some (.inl x), none]) (st' := [.inr (.inr (.inl (79, 280)))]) (m' := (f, l)) rfl rfl (fl_bo rfl) rfl ?_
  refine fl_Tq.cB (c := (20 : Int32)) rfl (by decide +kernel) (fl_bo rfl) ?_
  refine fl_Tq.ldV (p := 280) (τ := 79) (n := 29780) (z := (0, 0, 0)) (k := 20) (v := f 280 20) rfl (fl_bo rfl) rfl (by decide +kernel) (by decide) rfl ?_
  refine fl_Tq.cB (c := (24 : Int32)) rfl (by decide +kernel) (fl_bo rfl) ?_
  by_cases h1 : (f 280 20).toInt = (24 : Int32).toInt
  · refine fl_Tq.jf rfl (fl_bo rfl) (c2_ne_f h1) rfl ?_
    refine fl_Tq.cS (c := (167 : Int32)) rfl (by decide +kernel) (fl_bo rfl) ?_
    refine fl_Tq.stp (pc' := 16) (lv' := [some (.inr (.inr (.inl (76, 277)))), some (.inl x), some (.inl (167 : Int32))]) (st' := []) (m' := (f, l)) rfl rfl (fl_bo rfl) rfl ?_
    have hs16 : ∀ k : Nat, k < 46 → fl_Tq (pw_P L xs) 229 16 [some (.inr (.inr (.inl (76, 277)))), some (.inl x), some (.inl (Int32.ofNat (167 + (k + 1))))] [] (r_writeDown_f16 f x (k + 1), l) Q → fl_Tq (pw_P L xs) 229 16 [some (.inr (.inr (.inl (76, 277)))), some (.inl x), some (.inl (Int32.ofNat (167 + k)))] [] (r_writeDown_f16 f x k, l) Q := fun k hkn hS => r_writeDown_b16_q hkn (by omega)  hS
    refine t2_for (S := fun k => fl_Tq (pw_P L xs) 229 16 [some (.inr (.inr (.inl (76, 277)))), some (.inl x), some (.inl (Int32.ofNat (167 + k)))] [] (r_writeDown_f16 f x k, l) Q) hs16 ?_
    show fl_Tq (pw_P L xs) 229 16 [some (.inr (.inr (.inl (76, 277)))), some (.inl x), some (.inl (Int32.ofNat (167 + 46)))] [] (r_writeDown_f16 f x 46, l) _
    refine fl_Tq.stp (pc' := 17) (lv' := [some (.inr (.inr (.inl (76, 277)))), some (.inl x), some (.inl (Int32.ofNat (167 + 46)))]) (st' := [.inl (Int32.ofNat (167 + 46))]) (m' := (r_writeDown_f16 f x 46, l)) rfl rfl (fl_bo rfl) rfl ?_
    refine fl_Tq.cS (c := (213 : Int32)) rfl (by decide +kernel) (fl_bo rfl) ?_
    refine fl_Tq.jt rfl (fl_bo rfl) (c2_ge_t (by have c213 : (213 : Int32).toInt = 213 := (by decide +kernel); have e2 : (Int32.ofNat (167 + 46)).toInt = ((167 + 46 : Nat) : Int) := at_ofN (by omega); omega)) rfl ?_
    refine fl_Tq.stp (pc' := 44) (lv' := [some (.inr (.inr (.inl (76, 277)))), some (.inl x), some (.inl (Int32.ofNat (167 + 46)))]) (st' := [.inr (.inr (.inl (76, 277)))]) (m' := (r_writeDown_f16 f x 46, l)) rfl rfl (fl_bo rfl) rfl ?_
    refine fl_Tq.stp (pc' := 47) (lv' := [some (.inr (.inr (.inl (76, 277)))), some (.inl x), some (.inl (Int32.ofNat (167 + 46)))]) (st' := [.inr (.inr (.inl (79, 280)))]) (m' := (r_writeDown_f16 f x 46, l)) rfl rfl (fl_bo rfl) rfl ?_
    refine fl_Tq.cB (c := (20 : Int32)) rfl (by decide +kernel) (fl_bo rfl) ?_
    refine fl_Tq.stp (pc' := 50) (lv' := [some (.inr (.inr (.inl (76, 277)))), some (.inl x), some (.inl (Int32.ofNat (167 + 46)))]) (st' := [.inl (20 : Int32), .inr (.inr (.inl (79, 280))), .inl (20 : Int32), .inr (.inr (.inl (79, 280)))]) (m' := (r_writeDown_f16 f x 46, l)) rfl rfl (fl_bo rfl) rfl ?_
    refine fl_Tq.ldV (p := 280) (τ := 79) (n := 29780) (z := (0, 0, 0)) (k := 20) (v := f 280 20) rfl (fl_bo rfl) rfl (by decide +kernel) (by decide) (by simp only [r_writeDown_f16_w (f := f) (k := 46) (w := 20) (by omega) (by omega)]) ?_
    refine fl_Tq.cI (c := (1 : Int32)) rfl (by decide +kernel) (fl_bo rfl) ?_
    refine fl_Tq.stp (pc' := 53) (lv' := [some (.inr (.inr (.inl (76, 277)))), some (.inl x), some (.inl (Int32.ofNat (167 + 46)))]) (st' := [.inl ((f 280 20) - (1 : Int32)), .inl (20 : Int32), .inr (.inr (.inl (79, 280)))]) (m' := (r_writeDown_f16 f x 46, l)) rfl rfl (fl_bo rfl) rfl ?_
    refine fl_Tq.svV (p := 280) (τ := 79) (n := 29780) (z := (0, 0, 0)) (k := 20) (m' := (fl_row (r_writeDown_f16 f x 46) 280 (upd ((r_writeDown_f16 f x 46) 280) 20 ((f 280 20) - (1 : Int32))), l)) rfl (fl_bo rfl) rfl (by decide +kernel) (by decide) (t2_upn rfl) ?_
    refine fl_Tq.stp (pc' := 55) (lv' := [some (.inr (.inr (.inl (76, 277)))), some (.inl x), some (.inl (Int32.ofNat (167 + 46)))]) (st' := [.inr (.inr (.inl (76, 277)))]) (m' := (fl_row (r_writeDown_f16 f x 46) 280 (upd ((r_writeDown_f16 f x 46) 280) 20 ((f 280 20) - (1 : Int32))), l)) rfl rfl (fl_bo rfl) rfl ?_
    refine fl_Tq.stp (pc' := 58) (lv' := [some (.inr (.inr (.inl (76, 277)))), some (.inl x), some (.inl (Int32.ofNat (167 + 46)))]) (st' := [.inr (.inr (.inl (79, 280)))]) (m' := (fl_row (r_writeDown_f16 f x 46) 280 (upd ((r_writeDown_f16 f x 46) 280) 20 ((f 280 20) - (1 : Int32))), l)) rfl rfl (fl_bo rfl) rfl ?_
    refine fl_Tq.cS (c := (167 : Int32)) rfl (by decide +kernel) (fl_bo rfl) ?_
    refine fl_Tq.cI (c := (2 : Int32)) rfl (by decide +kernel) (fl_bo rfl) ?_
    refine fl_Tq.stp (pc' := 63) (lv' := [some (.inr (.inr (.inl (76, 277)))), some (.inl x), some (.inl (Int32.ofNat (167 + 46)))]) (st' := [.inr (.inr (.inl (76, 277))), .inl (2 : Int32), .inl (167 : Int32), .inr (.inr (.inl (79, 280)))]) (m' := (fl_row (r_writeDown_f16 f x 46) 280 (upd ((r_writeDown_f16 f x 46) 280) 20 ((f 280 20) - (1 : Int32))), l)) rfl rfl (fl_bo rfl) rfl ?_
    refine fl_Tq.stp (pc' := 66) (lv' := [some (.inr (.inr (.inl (76, 277)))), some (.inl x), some (.inl (Int32.ofNat (167 + 46)))]) (st' := [.inr (.inr (.inl (79, 280))), .inl (2 : Int32), .inl (167 : Int32), .inr (.inr (.inl (79, 280)))]) (m' := (fl_row (r_writeDown_f16 f x 46) 280 (upd ((r_writeDown_f16 f x 46) 280) 20 ((f 280 20) - (1 : Int32))), l)) rfl rfl (fl_bo rfl) rfl ?_
    refine fl_Tq.cB (c := (20 : Int32)) rfl (by decide +kernel) (fl_bo rfl) ?_
    refine fl_Tq.ldV (p := 280) (τ := 79) (n := 29780) (z := (0, 0, 0)) (k := 20) (v := (f 280 20) - (1 : Int32)) rfl (fl_bo rfl) rfl (by decide +kernel) (by decide) (by simp only [fl_row_self, upd_self]) ?_
    refine fl_Tq.stp (pc' := 70) (lv' := [some (.inr (.inr (.inl (76, 277)))), some (.inl x), some (.inl (Int32.ofNat (167 + 46)))]) (st' := [.inl ((2 : Int32) * ((f 280 20) - (1 : Int32))), .inl (167 : Int32), .inr (.inr (.inl (79, 280)))]) (m' := (fl_row (r_writeDown_f16 f x 46) 280 (upd ((r_writeDown_f16 f x 46) 280) 20 ((f 280 20) - (1 : Int32))), l)) rfl rfl (fl_bo rfl) rfl ?_
    refine fl_Tq.stp (pc' := 71) (lv' := [some (.inr (.inr (.inl (76, 277)))), some (.inl x), some (.inl (Int32.ofNat (167 + 46)))]) (st' := [.inl ((167 : Int32) + ((2 : Int32) * ((f 280 20) - (1 : Int32)))), .inr (.inr (.inl (79, 280)))]) (m' := (fl_row (r_writeDown_f16 f x 46) 280 (upd ((r_writeDown_f16 f x 46) 280) 20 ((f 280 20) - (1 : Int32))), l)) rfl rfl (fl_bo rfl) rfl ?_
    refine fl_Tq.stp (pc' := 72) (lv' := [some (.inr (.inr (.inl (76, 277)))), some (.inl x), some (.inl (Int32.ofNat (167 + 46)))]) (st' := [.inr (.inr (.inl (76, 277))), .inl ((167 : Int32) + ((2 : Int32) * ((f 280 20) - (1 : Int32)))), .inr (.inr (.inl (79, 280)))]) (m' := (fl_row (r_writeDown_f16 f x 46) 280 (upd ((r_writeDown_f16 f x 46) 280) 20 ((f 280 20) - (1 : Int32))), l)) rfl rfl (fl_bo rfl) rfl ?_
    refine fl_Tq.stp (pc' := 75) (lv' := [some (.inr (.inr (.inl (76, 277)))), some (.inl x), some (.inl (Int32.ofNat (167 + 46)))]) (st' := [.inr (.inr (.inl (79, 280))), .inl ((167 : Int32) + ((2 : Int32) * ((f 280 20) - (1 : Int32)))), .inr (.inr (.inl (79, 280)))]) (m' := (fl_row (r_writeDown_f16 f x 46) 280 (upd ((r_writeDown_f16 f x 46) 280) 20 ((f 280 20) - (1 : Int32))), l)) rfl rfl (fl_bo rfl) rfl ?_
    refine fl_Tq.cB (c := (7 : Int32)) rfl (by decide +kernel) (fl_bo rfl) ?_
    refine fl_Tq.ldV (p := 280) (τ := 79) (n := 29780) (z := (0, 0, 0)) (k := 7) (v := f 280 7) rfl (fl_bo rfl) rfl (by decide +kernel) (by decide) (by simp only [fl_row_self, upd_ne (by decide : 7 ≠ 20), r_writeDown_f16_w (f := f) (k := 46) (w := 7) (by omega) (by omega)]) ?_
    refine fl_Tq.svV (p := 280) (τ := 79) (n := 29780) (z := (0, 0, 0)) (k := 167 + (2 * (((f 280 20).toInt.toNat) - 1))) (m' := (fl_row (r_writeDown_f16 f x 46) 280 (upd (upd ((r_writeDown_f16 f x 46) 280) 20 ((f 280 20) - (1 : Int32))) (167 + (2 * (((f 280 20).toInt.toNat) - 1))) (f 280 7)), l)) rfl (fl_bo rfl) rfl (t2_ia (by decide +kernel) (t2_im (by decide +kernel) (t2_is (t2_nn hb.1) (by decide +kernel) (by have c24 : (24 : Int32).toInt = 24 := (by decide +kernel); omega)) (by have c24 : (24 : Int32).toInt = 24 := (by decide +kernel); omega)) (by have c24 : (24 : Int32).toInt = 24 := (by decide +kernel); omega)) (by have c24 : (24 : Int32).toInt = 24 := (by decide +kernel); omega) (t2_upr) ?_
    refine fl_Tq.stp (pc' := 80) (lv' := [some (.inr (.inr (.inl (76, 277)))), some (.inl x), some (.inl (Int32.ofNat (167 + 46)))]) (st' := [.inr (.inr (.inl (76, 277)))]) (m' := (fl_row (r_writeDown_f16 f x 46) 280 (upd (upd ((r_writeDown_f16 f x 46) 280) 20 ((f 280 20) - (1 : Int32))) (167 + (2 * (((f 280 20).toInt.toNat) - 1))) (f 280 7)), l)) rfl rfl (fl_bo rfl) rfl ?_
    refine fl_Tq.stp (pc' := 83) (lv' := [some (.inr (.inr (.inl (76, 277)))), some (.inl x), some (.inl (Int32.ofNat (167 + 46)))]) (st' := [.inr (.inr (.inl (79, 280)))]) (m' := (fl_row (r_writeDown_f16 f x 46) 280 (upd (upd ((r_writeDown_f16 f x 46) 280) 20 ((f 280 20) - (1 : Int32))) (167 + (2 * (((f 280 20).toInt.toNat) - 1))) (f 280 7)), l)) rfl rfl (fl_bo rfl) rfl ?_
    refine fl_Tq.cS (c := (167 : Int32)) rfl (by decide +kernel) (fl_bo rfl) ?_
    refine fl_Tq.cI (c := (2 : Int32)) rfl (by decide +kernel) (fl_bo rfl) ?_
    refine fl_Tq.stp (pc' := 88) (lv' := [some (.inr (.inr (.inl (76, 277)))), some (.inl x), some (.inl (Int32.ofNat (167 + 46)))]) (st' := [.inr (.inr (.inl (76, 277))), .inl (2 : Int32), .inl (167 : Int32), .inr (.inr (.inl (79, 280)))]) (m' := (fl_row (r_writeDown_f16 f x 46) 280 (upd (upd ((r_writeDown_f16 f x 46) 280) 20 ((f 280 20) - (1 : Int32))) (167 + (2 * (((f 280 20).toInt.toNat) - 1))) (f 280 7)), l)) rfl rfl (fl_bo rfl) rfl ?_
    refine fl_Tq.stp (pc' := 91) (lv' := [some (.inr (.inr (.inl (76, 277)))), some (.inl x), some (.inl (Int32.ofNat (167 + 46)))]) (st' := [.inr (.inr (.inl (79, 280))), .inl (2 : Int32), .inl (167 : Int32), .inr (.inr (.inl (79, 280)))]) (m' := (fl_row (r_writeDown_f16 f x 46) 280 (upd (upd ((r_writeDown_f16 f x 46) 280) 20 ((f 280 20) - (1 : Int32))) (167 + (2 * (((f 280 20).toInt.toNat) - 1))) (f 280 7)), l)) rfl rfl (fl_bo rfl) rfl ?_
    refine fl_Tq.cB (c := (20 : Int32)) rfl (by decide +kernel) (fl_bo rfl) ?_
    refine fl_Tq.ldV (p := 280) (τ := 79) (n := 29780) (z := (0, 0, 0)) (k := 20) (v := (f 280 20) - (1 : Int32)) rfl (fl_bo rfl) rfl (by decide +kernel) (by decide) (by simp only [fl_row_self, upd_ne (by omega : 20 ≠ 167 + (2 * (((f 280 20).toInt.toNat) - 1))), upd_self]) ?_
    refine fl_Tq.stp (pc' := 95) (lv' := [some (.inr (.inr (.inl (76, 277)))), some (.inl x), some (.inl (Int32.ofNat (167 + 46)))]) (st' := [.inl ((2 : Int32) * ((f 280 20) - (1 : Int32))), .inl (167 : Int32), .inr (.inr (.inl (79, 280)))]) (m' := (fl_row (r_writeDown_f16 f x 46) 280 (upd (upd ((r_writeDown_f16 f x 46) 280) 20 ((f 280 20) - (1 : Int32))) (167 + (2 * (((f 280 20).toInt.toNat) - 1))) (f 280 7)), l)) rfl rfl (fl_bo rfl) rfl ?_
    refine fl_Tq.stp (pc' := 96) (lv' := [some (.inr (.inr (.inl (76, 277)))), some (.inl x), some (.inl (Int32.ofNat (167 + 46)))]) (st' := [.inl ((167 : Int32) + ((2 : Int32) * ((f 280 20) - (1 : Int32)))), .inr (.inr (.inl (79, 280)))]) (m' := (fl_row (r_writeDown_f16 f x 46) 280 (upd (upd ((r_writeDown_f16 f x 46) 280) 20 ((f 280 20) - (1 : Int32))) (167 + (2 * (((f 280 20).toInt.toNat) - 1))) (f 280 7)), l)) rfl rfl (fl_bo rfl) rfl ?_
    refine fl_Tq.cI (c := (1 : Int32)) rfl (by decide +kernel) (fl_bo rfl) ?_
    refine fl_Tq.stp (pc' := 98) (lv' := [some (.inr (.inr (.inl (76, 277)))), some (.inl x), some (.inl (Int32.ofNat (167 + 46)))]) (st' := [.inl (((167 : Int32) + ((2 : Int32) * ((f 280 20) - (1 : Int32)))) + (1 : Int32)), .inr (.inr (.inl (79, 280)))]) (m' := (fl_row (r_writeDown_f16 f x 46) 280 (upd (upd ((r_writeDown_f16 f x 46) 280) 20 ((f 280 20) - (1 : Int32))) (167 + (2 * (((f 280 20).toInt.toNat) - 1))) (f 280 7)), l)) rfl rfl (fl_bo rfl) rfl ?_
    refine fl_Tq.stp (pc' := 99) (lv' := [some (.inr (.inr (.inl (76, 277)))), some (.inl x), some (.inl (Int32.ofNat (167 + 46)))]) (st' := [.inl x, .inl (((167 : Int32) + ((2 : Int32) * ((f 280 20) - (1 : Int32)))) + (1 : Int32)), .inr (.inr (.inl (79, 280)))]) (m' := (fl_row (r_writeDown_f16 f x 46) 280 (upd (upd ((r_writeDown_f16 f x 46) 280) 20 ((f 280 20) - (1 : Int32))) (167 + (2 * (((f 280 20).toInt.toNat) - 1))) (f 280 7)), l)) rfl rfl (fl_bo rfl) rfl ?_
    refine fl_Tq.svV (p := 280) (τ := 79) (n := 29780) (z := (0, 0, 0)) (k := (167 + (2 * (((f 280 20).toInt.toNat) - 1))) + 1) (m' := (fl_row (r_writeDown_f16 f x 46) 280 (upd (upd (upd ((r_writeDown_f16 f x 46) 280) 20 ((f 280 20) - (1 : Int32))) (167 + (2 * (((f 280 20).toInt.toNat) - 1))) (f 280 7)) ((167 + (2 * (((f 280 20).toInt.toNat) - 1))) + 1) x), l)) rfl (fl_bo rfl) rfl (t2_ia (t2_ia (by decide +kernel) (t2_im (by decide +kernel) (t2_is (t2_nn hb.1) (by decide +kernel) (by have c24 : (24 : Int32).toInt = 24 := (by decide +kernel); omega)) (by have c24 : (24 : Int32).toInt = 24 := (by decide +kernel); omega)) (by have c24 : (24 : Int32).toInt = 24 := (by decide +kernel); omega)) (by decide +kernel) (by have c24 : (24 : Int32).toInt = 24 := (by decide +kernel); omega)) (by have c24 : (24 : Int32).toInt = 24 := (by decide +kernel); omega) (t2_upr) ?_
    refine fl_Tq.stp (pc' := 101) (lv' := [some (.inr (.inr (.inl (76, 277)))), some (.inl x), some (.inl (Int32.ofNat (167 + 46)))]) (st' := [.inr (.inr (.inl (76, 277)))]) (m' := (fl_row (r_writeDown_f16 f x 46) 280 (upd (upd (upd ((r_writeDown_f16 f x 46) 280) 20 ((f 280 20) - (1 : Int32))) (167 + (2 * (((f 280 20).toInt.toNat) - 1))) (f 280 7)) ((167 + (2 * (((f 280 20).toInt.toNat) - 1))) + 1) x), l)) rfl rfl (fl_bo rfl) rfl ?_
    refine fl_Tq.stp (pc' := 104) (lv' := [some (.inr (.inr (.inl (76, 277)))), some (.inl x), some (.inl (Int32.ofNat (167 + 46)))]) (st' := [.inr (.inr (.inl (79, 280)))]) (m' := (fl_row (r_writeDown_f16 f x 46) 280 (upd (upd (upd ((r_writeDown_f16 f x 46) 280) 20 ((f 280 20) - (1 : Int32))) (167 + (2 * (((f 280 20).toInt.toNat) - 1))) (f 280 7)) ((167 + (2 * (((f 280 20).toInt.toNat) - 1))) + 1) x), l)) rfl rfl (fl_bo rfl) rfl ?_
    refine fl_Tq.cB (c := (20 : Int32)) rfl (by decide +kernel) (fl_bo rfl) ?_
    refine fl_Tq.stp (pc' := 107) (lv' := [some (.inr (.inr (.inl (76, 277)))), some (.inl x), some (.inl (Int32.ofNat (167 + 46)))]) (st' := [.inl (20 : Int32), .inr (.inr (.inl (79, 280))), .inl (20 : Int32), .inr (.inr (.inl (79, 280)))]) (m' := (fl_row (r_writeDown_f16 f x 46) 280 (upd (upd (upd ((r_writeDown_f16 f x 46) 280) 20 ((f 280 20) - (1 : Int32))) (167 + (2 * (((f 280 20).toInt.toNat) - 1))) (f 280 7)) ((167 + (2 * (((f 280 20).toInt.toNat) - 1))) + 1) x), l)) rfl rfl (fl_bo rfl) rfl ?_
    refine fl_Tq.ldV (p := 280) (τ := 79) (n := 29780) (z := (0, 0, 0)) (k := 20) (v := (f 280 20) - (1 : Int32)) rfl (fl_bo rfl) rfl (by decide +kernel) (by decide) (by simp only [fl_row_self, upd_ne (by omega : 20 ≠ (167 + (2 * (((f 280 20).toInt.toNat) - 1))) + 1), upd_ne (by omega : 20 ≠ 167 + (2 * (((f 280 20).toInt.toNat) - 1))), upd_self]) ?_
    refine fl_Tq.cI (c := (1 : Int32)) rfl (by decide +kernel) (fl_bo rfl) ?_
    refine fl_Tq.stp (pc' := 110) (lv' := [some (.inr (.inr (.inl (76, 277)))), some (.inl x), some (.inl (Int32.ofNat (167 + 46)))]) (st' := [.inl (((f 280 20) - (1 : Int32)) + (1 : Int32)), .inl (20 : Int32), .inr (.inr (.inl (79, 280)))]) (m' := (fl_row (r_writeDown_f16 f x 46) 280 (upd (upd (upd ((r_writeDown_f16 f x 46) 280) 20 ((f 280 20) - (1 : Int32))) (167 + (2 * (((f 280 20).toInt.toNat) - 1))) (f 280 7)) ((167 + (2 * (((f 280 20).toInt.toNat) - 1))) + 1) x), l)) rfl rfl (fl_bo rfl) rfl ?_
    refine fl_Tq.svV (p := 280) (τ := 79) (n := 29780) (z := (0, 0, 0)) (k := 20) (m' := (fl_row (r_writeDown_f16 f x 46) 280 (upd (upd (upd (upd ((r_writeDown_f16 f x 46) 280) 20 ((f 280 20) - (1 : Int32))) (167 + (2 * (((f 280 20).toInt.toNat) - 1))) (f 280 7)) ((167 + (2 * (((f 280 20).toInt.toNat) - 1))) + 1) x) 20 (((f 280 20) - (1 : Int32)) + (1 : Int32))), l)) rfl (fl_bo rfl) rfl (by decide +kernel) (by decide) (t2_upr) ?_
    refine fl_Tq.ret rfl rfl rfl ?_
    unfold r_writeDown_m at k
    simp only [if_pos h1] at k
    exact k
  · refine fl_Tq.jt rfl (fl_bo rfl) (c2_ne_t h1) rfl ?_
    refine fl_Tq.stp (pc' := 55) (lv' := [some (.inr (.inr (.inl (76, 277)))), some (.inl x), none]) (st' := [.inr (.inr (.inl (76, 277)))]) (m' := (f, l)) rfl rfl (fl_bo rfl) rfl ?_
    refine fl_Tq.stp (pc' := 58) (lv' := [some (.inr (.inr (.inl (76, 277)))), some (.inl x), none]) (st' := [.inr (.inr (.inl (79, 280)))]) (m' := (f, l)) rfl rfl (fl_bo rfl) rfl ?_
    refine fl_Tq.cS (c := (167 : Int32)) rfl (by decide +kernel) (fl_bo rfl) ?_
    refine fl_Tq.cI (c := (2 : Int32)) rfl (by decide +kernel) (fl_bo rfl) ?_
    refine fl_Tq.stp (pc' := 63) (lv' := [some (.inr (.inr (.inl (76, 277)))), some (.inl x), none]) (st' := [.inr (.inr (.inl (76, 277))), .inl (2 : Int32), .inl (167 : Int32), .inr (.inr (.inl (79, 280)))]) (m' := (f, l)) rfl rfl (fl_bo rfl) rfl ?_
    refine fl_Tq.stp (pc' := 66) (lv' := [some (.inr (.inr (.inl (76, 277)))), some (.inl x), none]) (st' := [.inr (.inr (.inl (79, 280))), .inl (2 : Int32), .inl (167 : Int32), .inr (.inr (.inl (79, 280)))]) (m' := (f, l)) rfl rfl (fl_bo rfl) rfl ?_
    refine fl_Tq.cB (c := (20 : Int32)) rfl (by decide +kernel) (fl_bo rfl) ?_
    refine fl_Tq.ldV (p := 280) (τ := 79) (n := 29780) (z := (0, 0, 0)) (k := 20) (v := f 280 20) rfl (fl_bo rfl) rfl (by decide +kernel) (by decide) rfl ?_
    refine fl_Tq.stp (pc' := 70) (lv' := [some (.inr (.inr (.inl (76, 277)))), some (.inl x), none]) (st' := [.inl ((2 : Int32) * (f 280 20)), .inl (167 : Int32), .inr (.inr (.inl (79, 280)))]) (m' := (f, l)) rfl rfl (fl_bo rfl) rfl ?_
    refine fl_Tq.stp (pc' := 71) (lv' := [some (.inr (.inr (.inl (76, 277)))), some (.inl x), none]) (st' := [.inl ((167 : Int32) + ((2 : Int32) * (f 280 20))), .inr (.inr (.inl (79, 280)))]) (m' := (f, l)) rfl rfl (fl_bo rfl) rfl ?_
    refine fl_Tq.stp (pc' := 72) (lv' := [some (.inr (.inr (.inl (76, 277)))), some (.inl x), none]) (st' := [.inr (.inr (.inl (76, 277))), .inl ((167 : Int32) + ((2 : Int32) * (f 280 20))), .inr (.inr (.inl (79, 280)))]) (m' := (f, l)) rfl rfl (fl_bo rfl) rfl ?_
    refine fl_Tq.stp (pc' := 75) (lv' := [some (.inr (.inr (.inl (76, 277)))), some (.inl x), none]) (st' := [.inr (.inr (.inl (79, 280))), .inl ((167 : Int32) + ((2 : Int32) * (f 280 20))), .inr (.inr (.inl (79, 280)))]) (m' := (f, l)) rfl rfl (fl_bo rfl) rfl ?_
    refine fl_Tq.cB (c := (7 : Int32)) rfl (by decide +kernel) (fl_bo rfl) ?_
    refine fl_Tq.ldV (p := 280) (τ := 79) (n := 29780) (z := (0, 0, 0)) (k := 7) (v := f 280 7) rfl (fl_bo rfl) rfl (by decide +kernel) (by decide) rfl ?_
    refine fl_Tq.svV (p := 280) (τ := 79) (n := 29780) (z := (0, 0, 0)) (k := 167 + (2 * ((f 280 20).toInt.toNat))) (m' := (fl_row f 280 (upd (f 280) (167 + (2 * ((f 280 20).toInt.toNat))) (f 280 7)), l)) rfl (fl_bo rfl) rfl (t2_ia (by decide +kernel) (t2_im (by decide +kernel) (t2_nn hb.1) (by have c24 : (24 : Int32).toInt = 24 := (by decide +kernel); omega)) (by have c24 : (24 : Int32).toInt = 24 := (by decide +kernel); omega)) (by have c24 : (24 : Int32).toInt = 24 := (by decide +kernel); omega) (t2_upn rfl) ?_
    refine fl_Tq.stp (pc' := 80) (lv' := [some (.inr (.inr (.inl (76, 277)))), some (.inl x), none]) (st' := [.inr (.inr (.inl (76, 277)))]) (m' := (fl_row f 280 (upd (f 280) (167 + (2 * ((f 280 20).toInt.toNat))) (f 280 7)), l)) rfl rfl (fl_bo rfl) rfl ?_
    refine fl_Tq.stp (pc' := 83) (lv' := [some (.inr (.inr (.inl (76, 277)))), some (.inl x), none]) (st' := [.inr (.inr (.inl (79, 280)))]) (m' := (fl_row f 280 (upd (f 280) (167 + (2 * ((f 280 20).toInt.toNat))) (f 280 7)), l)) rfl rfl (fl_bo rfl) rfl ?_
    refine fl_Tq.cS (c := (167 : Int32)) rfl (by decide +kernel) (fl_bo rfl) ?_
    refine fl_Tq.cI (c := (2 : Int32)) rfl (by decide +kernel) (fl_bo rfl) ?_
    refine fl_Tq.stp (pc' := 88) (lv' := [some (.inr (.inr (.inl (76, 277)))), some (.inl x), none]) (st' := [.inr (.inr (.inl (76, 277))), .inl (2 : Int32), .inl (167 : Int32), .inr (.inr (.inl (79, 280)))]) (m' := (fl_row f 280 (upd (f 280) (167 + (2 * ((f 280 20).toInt.toNat))) (f 280 7)), l)) rfl rfl (fl_bo rfl) rfl ?_
    refine fl_Tq.stp (pc' := 91) (lv' := [some (.inr (.inr (.inl (76, 277)))), some (.inl x), none]) (st' := [.inr (.inr (.inl (79, 280))), .inl (2 : Int32), .inl (167 : Int32), .inr (.inr (.inl (79, 280)))]) (m' := (fl_row f 280 (upd (f 280) (167 + (2 * ((f 280 20).toInt.toNat))) (f 280 7)), l)) rfl rfl (fl_bo rfl) rfl ?_
    refine fl_Tq.cB (c := (20 : Int32)) rfl (by decide +kernel) (fl_bo rfl) ?_
    refine fl_Tq.ldV (p := 280) (τ := 79) (n := 29780) (z := (0, 0, 0)) (k := 20) (v := f 280 20) rfl (fl_bo rfl) rfl (by decide +kernel) (by decide) (by simp only [fl_row_self, upd_ne (by omega : 20 ≠ 167 + (2 * ((f 280 20).toInt.toNat)))]) ?_
    refine fl_Tq.stp (pc' := 95) (lv' := [some (.inr (.inr (.inl (76, 277)))), some (.inl x), none]) (st' := [.inl ((2 : Int32) * (f 280 20)), .inl (167 : Int32), .inr (.inr (.inl (79, 280)))]) (m' := (fl_row f 280 (upd (f 280) (167 + (2 * ((f 280 20).toInt.toNat))) (f 280 7)), l)) rfl rfl (fl_bo rfl) rfl ?_
    refine fl_Tq.stp (pc' := 96) (lv' := [some (.inr (.inr (.inl (76, 277)))), some (.inl x), none]) (st' := [.inl ((167 : Int32) + ((2 : Int32) * (f 280 20))), .inr (.inr (.inl (79, 280)))]) (m' := (fl_row f 280 (upd (f 280) (167 + (2 * ((f 280 20).toInt.toNat))) (f 280 7)), l)) rfl rfl (fl_bo rfl) rfl ?_
    refine fl_Tq.cI (c := (1 : Int32)) rfl (by decide +kernel) (fl_bo rfl) ?_
    refine fl_Tq.stp (pc' := 98) (lv' := [some (.inr (.inr (.inl (76, 277)))), some (.inl x), none]) (st' := [.inl (((167 : Int32) + ((2 : Int32) * (f 280 20))) + (1 : Int32)), .inr (.inr (.inl (79, 280)))]) (m' := (fl_row f 280 (upd (f 280) (167 + (2 * ((f 280 20).toInt.toNat))) (f 280 7)), l)) rfl rfl (fl_bo rfl) rfl ?_
    refine fl_Tq.stp (pc' := 99) (lv' := [some (.inr (.inr (.inl (76, 277)))), some (.inl x), none]) (st' := [.inl x, .inl (((167 : Int32) + ((2 : Int32) * (f 280 20))) + (1 : Int32)), .inr (.inr (.inl (79, 280)))]) (m' := (fl_row f 280 (upd (f 280) (167 + (2 * ((f 280 20).toInt.toNat))) (f 280 7)), l)) rfl rfl (fl_bo rfl) rfl ?_
    refine fl_Tq.svV (p := 280) (τ := 79) (n := 29780) (z := (0, 0, 0)) (k := (167 + (2 * ((f 280 20).toInt.toNat))) + 1) (m' := (fl_row f 280 (upd (upd (f 280) (167 + (2 * ((f 280 20).toInt.toNat))) (f 280 7)) ((167 + (2 * ((f 280 20).toInt.toNat))) + 1) x), l)) rfl (fl_bo rfl) rfl (t2_ia (t2_ia (by decide +kernel) (t2_im (by decide +kernel) (t2_nn hb.1) (by have c24 : (24 : Int32).toInt = 24 := (by decide +kernel); omega)) (by have c24 : (24 : Int32).toInt = 24 := (by decide +kernel); omega)) (by decide +kernel) (by have c24 : (24 : Int32).toInt = 24 := (by decide +kernel); omega)) (by have c24 : (24 : Int32).toInt = 24 := (by decide +kernel); omega) (t2_upr) ?_
    refine fl_Tq.stp (pc' := 101) (lv' := [some (.inr (.inr (.inl (76, 277)))), some (.inl x), none]) (st' := [.inr (.inr (.inl (76, 277)))]) (m' := (fl_row f 280 (upd (upd (f 280) (167 + (2 * ((f 280 20).toInt.toNat))) (f 280 7)) ((167 + (2 * ((f 280 20).toInt.toNat))) + 1) x), l)) rfl rfl (fl_bo rfl) rfl ?_
    refine fl_Tq.stp (pc' := 104) (lv' := [some (.inr (.inr (.inl (76, 277)))), some (.inl x), none]) (st' := [.inr (.inr (.inl (79, 280)))]) (m' := (fl_row f 280 (upd (upd (f 280) (167 + (2 * ((f 280 20).toInt.toNat))) (f 280 7)) ((167 + (2 * ((f 280 20).toInt.toNat))) + 1) x), l)) rfl rfl (fl_bo rfl) rfl ?_
    refine fl_Tq.cB (c := (20 : Int32)) rfl (by decide +kernel) (fl_bo rfl) ?_
    refine fl_Tq.stp (pc' := 107) (lv' := [some (.inr (.inr (.inl (76, 277)))), some (.inl x), none]) (st' := [.inl (20 : Int32), .inr (.inr (.inl (79, 280))), .inl (20 : Int32), .inr (.inr (.inl (79, 280)))]) (m' := (fl_row f 280 (upd (upd (f 280) (167 + (2 * ((f 280 20).toInt.toNat))) (f 280 7)) ((167 + (2 * ((f 280 20).toInt.toNat))) + 1) x), l)) rfl rfl (fl_bo rfl) rfl ?_
    refine fl_Tq.ldV (p := 280) (τ := 79) (n := 29780) (z := (0, 0, 0)) (k := 20) (v := f 280 20) rfl (fl_bo rfl) rfl (by decide +kernel) (by decide) (by simp only [fl_row_self, upd_ne (by omega : 20 ≠ (167 + (2 * ((f 280 20).toInt.toNat))) + 1), upd_ne (by omega : 20 ≠ 167 + (2 * ((f 280 20).toInt.toNat)))]) ?_
    refine fl_Tq.cI (c := (1 : Int32)) rfl (by decide +kernel) (fl_bo rfl) ?_
    refine fl_Tq.stp (pc' := 110) (lv' := [some (.inr (.inr (.inl (76, 277)))), some (.inl x), none]) (st' := [.inl ((f 280 20) + (1 : Int32)), .inl (20 : Int32), .inr (.inr (.inl (79, 280)))]) (m' := (fl_row f 280 (upd (upd (f 280) (167 + (2 * ((f 280 20).toInt.toNat))) (f 280 7)) ((167 + (2 * ((f 280 20).toInt.toNat))) + 1) x), l)) rfl rfl (fl_bo rfl) rfl ?_
    refine fl_Tq.svV (p := 280) (τ := 79) (n := 29780) (z := (0, 0, 0)) (k := 20) (m' := (fl_row f 280 (upd (upd (upd (f 280) (167 + (2 * ((f 280 20).toInt.toNat))) (f 280 7)) ((167 + (2 * ((f 280 20).toInt.toNat))) + 1) x) 20 ((f 280 20) + (1 : Int32))), l)) rfl (fl_bo rfl) rfl (by decide +kernel) (by decide) (t2_upr) ?_
    refine fl_Tq.ret rfl rfl rfl ?_
    unfold r_writeDown_m at k
    simp only [if_neg h1] at k
    exact k
theorem r_writeDown_hb {f : t2_F} {x : Int32} (hb : 0 ≤ (f 280 20).toInt ∧ (f 280 20).toInt ≤ 24) : 0 ≤ ((r_writeDown_m f x) 280 20).toInt ∧ ((r_writeDown_m f x) 280 20).toInt ≤ 24 := by
  have c24 : (24 : Int32).toInt = 24 := by decide +kernel
  have c1 : (1 : Int32).toInt = 1 := by decide +kernel
  unfold r_writeDown_m
  split
  · rename_i h
    rw [fl_row_self, upd_self, at_add32] <;> (try rw [at_sub32]) <;> omega
  · rename_i h
    rw [fl_row_self, upd_self, at_add32] <;> omega
