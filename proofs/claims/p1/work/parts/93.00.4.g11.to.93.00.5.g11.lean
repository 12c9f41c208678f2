/-! 93.00.4.g11.lean.txt -/
section
noncomputable def r_goKept_b16_m (f : t2_F) (k : Nat) : t2_F := fl_row f 280 (upd (f 280) (215 + k) (f 280 ((215 + k) + 3)))
theorem r_goKept_b16_fr {f : t2_F} {k : Nat} {p : Nat}  (e280 : p ≠ 280) : r_goKept_b16_m f k p = f p := by
  unfold r_goKept_b16_m
  repeat' split
  all_goals first | rfl | simp only [fl_row_ne e280]
theorem r_goKept_b16_w {f : t2_F} {k : Nat} {w : Nat} (hkb : k < 93) (hw : w < 215 ∨ 308 ≤ w) : r_goKept_b16_m f k 280 w = f 280 w := by
  unfold r_goKept_b16_m
  repeat' split
  all_goals first | rfl | simp only [fl_row_self, upd_ne (show w ≠ (215 + k) by omega)]
theorem r_goKept_b16_q {L : Nat} {xs : Nat → Int32} {f : t2_F} {l : t2_L} {Q : Option fl_V → fl_M → Prop} {k : Nat} {n : Nat} (hkn : k < n) (h93 : n ≤ 93)  (hS : fl_Tq (pw_P L xs) 235 16 [some (.inr (.inr (.inl (76, 277)))), some (.inl (Int32.ofNat (215 + (k + 1)))), none, none] [] (r_goKept_b16_m f k, l) Q) : fl_Tq (pw_P L xs) 235 16 [some (.inr (.inr (.inl (76, 277)))), some (.inl (Int32.ofNat (215 + k))), none, none] [] (f, l) Q := by
  refine fl_Tq.stp (pc' := 17) (lv' := [some (.inr (.inr (.inl (76, 277)))), some (.inl (Int32.ofNat (215 + k))), none, none]) (st' := [.inl (Int32.ofNat (215 + k))]) (m' := (f, l)) rfl rfl (fl_bo rfl) rfl ?_
  refine fl_Tq.cS (c := (308 : Int32)) rfl (by decide +kernel) (fl_bo rfl) ?_
  refine fl_Tq.jf rfl (fl_bo rfl) (c2_ge_f (by have c308 : (308 : Int32).toInt = 308 := (by decide +kernel); have e2 : (Int32.ofNat (215 + k)).toInt = ((215 + k : Nat) : Int) := at_ofN (by omega); omega)) rfl ?_
  refine fl_Tq.stp (pc' := 24) (lv' := [some (.inr (.inr (.inl (76, 277)))), some (.inl (Int32.ofNat (215 + k))), none, none]) (st' := [.inr (.inr (.inl (76, 277)))]) (m' := (f, l)) rfl rfl (fl_bo rfl) rfl ?_
  refine fl_Tq.stp (pc' := 27) (lv' := [some (.inr (.inr (.inl (76, 277)))), some (.inl (Int32.ofNat (215 + k))), none, none]) (st' := [.inr (.inr (.inl (79, 280)))]) (m' := (f, l)) rfl rfl (fl_bo rfl) rfl ?_
  refine fl_Tq.stp (pc' := 28) (lv' := [some (.inr (.inr (.inl (76, 277)))), some (.inl (Int32.ofNat (215 + k))), none, none]) (st' := [.inl (Int32.ofNat (215 + k)), .inr (.inr (.inl (79, 280)))]) (m' := (f, l)) rfl rfl (fl_bo rfl) rfl ?_
  refine fl_Tq.stp (pc' := 29) (lv' := [some (.inr (.inr (.inl (76, 277)))), some (.inl (Int32.ofNat (215 + k))), none, none]) (st' := [.inr (.inr (.inl (76, 277))), .inl (Int32.ofNat (215 + k)), .inr (.inr (.inl (79, 280)))]) (m' := (f, l)) rfl rfl (fl_bo rfl) rfl ?_
  refine fl_Tq.stp (pc' := 32) (lv' := [some (.inr (.inr (.inl (76, 277)))), some (.inl (Int32.ofNat (215 + k))), none, none]) (st' := [.inr (.inr (.inl (79, 280))), .inl (Int32.ofNat (215 + k)), .inr (.inr (.inl (79, 280)))]) (m' := (f, l)) rfl rfl (fl_bo rfl) rfl ?_
  refine fl_Tq.stp (pc' := 33) (lv' := [some (.inr (.inr (.inl (76, 277)))), some (.inl (Int32.ofNat (215 + k))), none, none]) (st' := [.inl (Int32.ofNat (215 + k)), .inr (.inr (.inl (79, 280))), .inl (Int32.ofNat (215 + k)), .inr (.inr (.inl (79, 280)))]) (m' := (f, l)) rfl rfl (fl_bo rfl) rfl ?_
  refine fl_Tq.cI (c := (3 : Int32)) rfl (by decide +kernel) (fl_bo rfl) ?_
  refine fl_Tq.stp (pc' := 35) (lv' := [some (.inr (.inr (.inl (76, 277)))), some (.inl (Int32.ofNat (215 + k))), none, none]) (st' := [.inl ((Int32.ofNat (215 + k)) + (3 : Int32)), .inr (.inr (.inl (79, 280))), .inl (Int32.ofNat (215 + k)), .inr (.inr (.inl (79, 280)))]) (m' := (f, l)) rfl rfl (fl_bo rfl) rfl ?_
  refine fl_Tq.ldV (p := 280) (τ := 79) (n := 29780) (z := (0, 0, 0)) (k := (215 + k) + 3) (v := f 280 ((215 + k) + 3)) rfl (fl_bo rfl) rfl (t2_ia (at_ofN (by omega)) (by decide +kernel) (by (first | omega | (have := r_goKept_m9_t htr; omega)))) (by (first | omega | (have := r_goKept_m9_t htr; omega))) rfl ?_
  refine fl_Tq.svV (p := 280) (τ := 79) (n := 29780) (z := (0, 0, 0)) (k := (215 + k)) (m' := (fl_row f 280 (upd (f 280) (215 + k) (f 280 ((215 + k) + 3))), l)) rfl (fl_bo rfl) rfl (at_ofN (by omega)) (by omega) (t2_upn rfl) ?_
  refine fl_Tq.stp (pc' := 40) (lv' := [some (.inr (.inr (.inl (76, 277)))), some (.inl ((Int32.ofNat (215 + k)) + (1 : Int32))), none, none]) (st' := []) (m' := (fl_row f 280 (upd (f 280) (215 + k) (f 280 ((215 + k) + 3))), l)) rfl rfl (fl_bo rfl) rfl ?_
  refine fl_Tq.stp (pc' := 16) (lv' := [some (.inr (.inr (.inl (76, 277)))), some (.inl ((Int32.ofNat (215 + k)) + (1 : Int32))), none, none]) (st' := []) (m' := (fl_row f 280 (upd (f 280) (215 + k) (f 280 ((215 + k) + 3))), l)) rfl rfl (fl_bo rfl) rfl ?_
  have em : r_goKept_b16_m f k = fl_row f 280 (upd (f 280) (215 + k) (f 280 ((215 + k) + 3))) := rfl
  have ek : Int32.ofNat (215 + (k + 1)) = (Int32.ofNat (215 + k)) + (1 : Int32) := (t2_k1 (215 + k)).symm
  rw [em, ek] at hS
  exact hS
noncomputable def r_goKept_f16 (f : t2_F)  : Nat → t2_F
  | 0 => f
  | k + 1 => r_goKept_b16_m (r_goKept_f16 f k) k
theorem r_goKept_f16_fr {f : t2_F}  {p : Nat} : ∀ {k : Nat}  (e280 : p ≠ 280), r_goKept_f16 f k p = f p := by
  intro k
  induction k with
  | zero => intros; rfl
  | succ k ih =>
    intro  e280
    exact (r_goKept_b16_fr  e280).trans (ih  e280)
theorem r_goKept_f16_w {f : t2_F}  {w : Nat} : ∀ {k : Nat} (hkb : k ≤ 93) (hw : w < 215 ∨ 308 ≤ w), r_goKept_f16 f k 280 w = f 280 w := by
  intro k
  induction k with
  | zero => intros; rfl
  | succ k ih =>
    intro hkb hw
    exact (r_goKept_b16_w (by omega) hw).trans (ih (by omega) hw)
noncomputable def r_goKept_m9 (f : t2_F)  : t2_F := if (f 280 21).toInt = (32 : Int32).toInt then fl_row (r_goKept_f16 f 93) 280 (upd ((r_goKept_f16 f 93) 280) 21 ((f 280 21) - (1 : Int32))) else f
theorem r_goKept_m9_w {f : t2_F} {w : Nat} (hw : w ≠ 21 ∧ (w < 215 ∨ 311 ≤ w)) : r_goKept_m9 f 280 w = f 280 w := by
  unfold r_goKept_m9
  split
  · rw [fl_row_self, upd_ne (by omega), r_goKept_f16_w (k := 93) (by omega) (by omega)]
  · rfl
theorem r_goKept_m9_fr {f : t2_F} {p : Nat} (e280 : p ≠ 280) : r_goKept_m9 f p = f p := by
  unfold r_goKept_m9
  split
  · rw [fl_row_ne e280, r_goKept_f16_fr e280]
  · rfl
theorem r_goKept_m9_t {f : t2_F} (htr : 0 ≤ (f 280 21).toInt ∧ (f 280 21).toInt ≤ 32) : 0 ≤ (r_goKept_m9 f 280 21).toInt ∧ (r_goKept_m9 f 280 21).toInt ≤ 31 := by
  have c1 : (1 : Int32).toInt = 1 := by decide +kernel
  have c32 : (32 : Int32).toInt = 32 := by decide +kernel
  unfold r_goKept_m9
  split
  · rw [fl_row_self, upd_self, at_sub32] <;> omega
  · omega
noncomputable def r_goKept_b117_j141_0 (f : t2_F) (z : Int32) (k : Nat) : Int32 := if (f 280 (444 + 61 * k + 7)).toInt < (r_voltsOf_v f (Int32.ofNat k) k).toInt then r_voltsOf_v f (Int32.ofNat k) k else f 280 (444 + 61 * k + 7)
noncomputable def r_goKept_b117_j160_0 (f : t2_F) (z : Int32) (k : Nat) : Int32 := if (r_voltsOf_v f (Int32.ofNat k) k).toInt < (f 280 (444 + 61 * k + 8)).toInt then r_voltsOf_v f (Int32.ofNat k) k else f 280 (444 + 61 * k + 8)
noncomputable def r_goKept_b117_m (f : t2_F) (z : Int32) (k : Nat) : t2_F := r_goTurn_m (fl_row f 280 (upd (upd (f 280) (444 + 61 * k + 7) (r_goKept_b117_j141_0 f z k)) (444 + 61 * k + 8) (r_goKept_b117_j160_0 f z k))) (Int32.ofNat k) k
theorem r_goKept_b117_fr {f : t2_F} {z : Int32} {k p : Nat} (e280 : p ≠ 280) : r_goKept_b117_m f z k p = f p := by
  unfold r_goKept_b117_m
  rw [r_goTurn_fr e280, fl_row_ne e280]
theorem r_goKept_b117_w {f : t2_F} {z : Int32} {k w : Nat} (ht : 1 ≤ (f 280 (444 + 61 * k + 10)).toInt ∧ (f 280 (444 + 61 * k + 10)).toInt ≤ 32) (hv : r_tv f k) (hkk : t2_ck f k) (hw : w < 444 + 61 * k ∨ 444 + 61 * (k + 1) ≤ w) : r_goKept_b117_m f z k 280 w = f 280 w := by
  unfold r_goKept_b117_m
  have e : ∀ (a b : Int32) (q : Nat), q ≠ 444 + 61 * k + 7 → q ≠ 444 + 61 * k + 8 → (fl_row f 280 (upd (upd (f 280) (444 + 61 * k + 7) a) (444 + 61 * k + 8) b)) 280 q = f 280 q := fun a b q h7 h8 => by rw [fl_row_self, upd_ne h8, upd_ne h7]
  refine (r_goTurn_w ?_ ?_ ?_ (by omega)).trans (e _ _ w (by omega) (by omega))
  · rw [e _ _ _ (by omega) (by omega)]
    exact ht
  · intro t ht
    rw [e _ _ _ (by omega) (by omega)]
    exact hv t ht
  · unfold t2_ck
    rw [e _ _ _ (by omega) (by omega), e _ _ _ (by omega) (by omega)]
    exact hkk
theorem r_goKept_b117_q {L : Nat} {xs : Nat → Int32} {f : t2_F} {l : t2_L} {Q : Option fl_V → fl_M → Prop} {z : Int32} {k : Nat} {n : Nat} (hkn : k < n) (hb : (f 280 2).toInt = (n : Int)) (h16 : n ≤ 16) (hr : t2_RS f) (hkk : t2_ck f k) (ht : 1 ≤ (f 280 (444 + 61 * k + 10)).toInt ∧ (f 280 (444 + 61 * k + 10)).toInt ≤ 32) (hv : r_tv f k) (hS : fl_Tq (pw_P L xs) 235 117 [some (.inr (.inr (.inl (76, 277)))), some (.inl z), some (.inl (Int32.ofNat (k + 1))), none] [] (r_goKept_b117_m f z k, l) Q) : fl_Tq (pw_P L xs) 235 117 [some (.inr (.inr (.inl (76, 277)))), some (.inl z), some (.inl (Int32.ofNat k)), none] [] (f, l) Q := by
  refine fl_Tq.stp (pc' := 118) (lv' := [some (.inr (.inr (.inl (76, 277)))), some (.inl z), some (.inl (Int32.ofNat k)), none]) (st' := [.inl (Int32.ofNat k)]) (m' := (f, l)) rfl rfl (fl_bo rfl) rfl ?_
  refine fl_Tq.stp (pc' := 119) (lv' := [some (.inr (.inr (.inl (76, 277)))), some (.inl z), some (.inl (Int32.ofNat k)), none]) (st' := [.inr (.inr (.inl (76, 277))), .inl (Int32.ofNat k)]) (m' := (f, l)) rfl rfl (fl_bo rfl) rfl ?_
  refine fl_Tq.stp (pc' := 122) (lv' := [some (.inr (.inr (.inl (76, 277)))), some (.inl z), some (.inl (Int32.ofNat k)), none]) (st' := [.inr (.inr (.inl (79, 280))), .inl (Int32.ofNat k)]) (m' := (f, l)) rfl rfl (fl_bo rfl) rfl ?_
  refine fl_Tq.cI (c := (2 : Int32)) rfl (by decide +kernel) (fl_bo rfl) ?_
  refine fl_Tq.ldV (p := 280) (τ := 79) (n := 29780) (z := (0, 0, 0)) (k := 2) (v := f 280 2) rfl (fl_bo rfl) rfl (by decide +kernel) (by decide) rfl ?_
  refine fl_Tq.jf rfl (fl_bo rfl) (c2_ge_f (t2_lk hkn hb)) rfl ?_
  refine fl_Tq.stp (pc' := 128) (lv' := [some (.inr (.inr (.inl (76, 277)))), some (.inl z), some (.inl (Int32.ofNat k)), none]) (st' := [.inr (.inr (.inl (76, 277)))]) (m' := (f, l)) rfl rfl (fl_bo rfl) rfl ?_
  refine fl_Tq.stp (pc' := 129) (lv' := [some (.inr (.inr (.inl (76, 277)))), some (.inl z), some (.inl (Int32.ofNat k)), none]) (st' := [.inl (Int32.ofNat k), .inr (.inr (.inl (76, 277)))]) (m' := (f, l)) rfl rfl (fl_bo rfl) rfl ?_
  refine fl_Tq.cal rfl rfl (fl_bo rfl) rfl ?_
  refine r_voltsOf_q (at_ofN (by omega)) (by omega) hr hkk ?_
  show fl_Tq _ 235 132 [some (.inr (.inr (.inl (76, 277)))), some (.inl z), some (.inl (Int32.ofNat k)), none] [.inl (r_voltsOf_v f (Int32.ofNat k) k)] (f, l) _
  refine fl_Tq.stp (pc' := 133) (lv' := [some (.inr (.inr (.inl (76, 277)))), some (.inl z), some (.inl (Int32.ofNat k)), some (.inl (r_voltsOf_v f (Int32.ofNat k) k))]) (st' := []) (m' := (f, l)) rfl rfl (fl_bo rfl) rfl ?_
  refine fl_Tq.stp (pc' := 134) (lv' := [some (.inr (.inr (.inl (76, 277)))), some (.inl z), some (.inl (Int32.ofNat k)), some (.inl (r_voltsOf_v f (Int32.ofNat k) k))]) (st' := [.inl (r_voltsOf_v f (Int32.ofNat k) k)]) (m' := (f, l)) rfl rfl (fl_bo rfl) rfl ?_
  refine fl_Tq.stp (pc' := 135) (lv' := [some (.inr (.inr (.inl (76, 277)))), some (.inl z), some (.inl (Int32.ofNat k)), some (.inl (r_voltsOf_v f (Int32.ofNat k) k))]) (st' := [.inr (.inr (.inl (76, 277))), .inl (r_voltsOf_v f (Int32.ofNat k) k)]) (m' := (f, l)) rfl rfl (fl_bo rfl) rfl ?_
  refine fl_Tq.stp (pc' := 136) (lv' := [some (.inr (.inr (.inl (76, 277)))), some (.inl z), some (.inl (Int32.ofNat k)), some (.inl (r_voltsOf_v f (Int32.ofNat k) k))]) (st' := [.inl (Int32.ofNat k), .inr (.inr (.inl (76, 277))), .inl (r_voltsOf_v f (Int32.ofNat k) k)]) (m' := (f, l)) rfl rfl (fl_bo rfl) rfl ?_
  refine fl_Tq.cB (c := (7 : Int32)) rfl (by decide +kernel) (fl_bo rfl) ?_
  refine fl_Tq.cal rfl rfl (fl_bo rfl) rfl ?_
  refine t2_get (C := k) (W := 7) (v := f 280 (444 + 61 * k + 7)) (at_ofN (by omega)) (by decide +kernel) (by omega) (by decide) rfl ?_
  show fl_Tq _ 235 141 [some (.inr (.inr (.inl (76, 277)))), some (.inl z), some (.inl (Int32.ofNat k)), some (.inl (r_voltsOf_v f (Int32.ofNat k) k))] [.inl (f 280 (444 + 61 * k + 7)), .inl (r_voltsOf_v f (Int32.ofNat k) k)] (f, l) _
  have hj143 : fl_Tq (pw_P L xs) 235 152 [some (.inr (.inr (.inl (76, 277)))), some (.inl z), some (.inl (Int32.ofNat k)), some (.inl (r_voltsOf_v f (Int32.ofNat k) k))] [] (fl_row f 280 (upd (f 280) (444 + 61 * k + 7) (r_goKept_b117_j141_0 f z k)), l) Q → fl_Tq (pw_P L xs) 235 141 [some (.inr (.inr (.inl (76, 277)))), some (.inl z), some (.inl (Int32.ofNat k)), some (.inl (r_voltsOf_v f (Int32.ofNat k) k))] [.inl (f 280 (444 + 61 * k + 7)), .inl (r_voltsOf_v f (Int32.ofNat k) k)] (f, l) Q := by
    intro hJ
    by_cases h2 : (f 280 (444 + 61 * k + 7)).toInt < (r_voltsOf_v f (Int32.ofNat k) k).toInt
    · refine fl_Tq.jf rfl (fl_bo rfl) (c2_le_f h2) rfl ?_
      refine fl_Tq.stp (pc' := 145) (lv' := [some (.inr (.inr (.inl (76, 277)))), some (.inl z), some (.inl (Int32.ofNat k)), some (.inl (r_voltsOf_v f (Int32.ofNat k) k))]) (st' := [.inr (.inr (.inl (76, 277)))]) (m' := (f, l)) rfl rfl (fl_bo rfl) rfl ?_
      refine fl_Tq.stp (pc' := 146) (lv' := [some (.inr (.inr (.inl (76, 277)))), some (.inl z), some (.inl (Int32.ofNat k)), some (.inl (r_voltsOf_v f (Int32.ofNat k) k))]) (st' := [.inl (Int32.ofNat k), .inr (.inr (.inl (76, 277)))]) (m' := (f, l)) rfl rfl (fl_bo rfl) rfl ?_
      refine fl_Tq.cB (c := (7 : Int32)) rfl (by decide +kernel) (fl_bo rfl) ?_
      refine fl_Tq.stp (pc' := 149) (lv' := [some (.inr (.inr (.inl (76, 277)))), some (.inl z), some (.inl (Int32.ofNat k)), some (.inl (r_voltsOf_v f (Int32.ofNat k) k))]) (st' := [.inl (r_voltsOf_v f (Int32.ofNat k) k), .inl (7 : Int32), .inl (Int32.ofNat k), .inr (.inr (.inl (76, 277)))]) (m' := (f, l)) rfl rfl (fl_bo rfl) rfl ?_
      refine fl_Tq.cal rfl rfl (fl_bo rfl) rfl ?_
      refine t2_let (C := k) (W := 7) (m' := (fl_row f 280 (upd (f 280) (444 + 61 * k + 7) (r_voltsOf_v f (Int32.ofNat k) k)), l)) (at_ofN (by omega)) (by decide +kernel) (by omega) (by decide) (t2_upn rfl) ?_
      show fl_Tq _ 235 152 [some (.inr (.inr (.inl (76, 277)))), some (.inl z), some (.inl (Int32.ofNat k)), some (.inl (r_voltsOf_v f (Int32.ofNat k) k))] [] (fl_row f 280 (upd (f 280) (444 + 61 * k + 7) (r_voltsOf_v f (Int32.ofNat k) k)), l) _
      have e0 : (fl_row f 280 (upd (f 280) (444 + 61 * k + 7) (r_goKept_b117_j141_0 f z k))) = fl_row f 280 (upd (f 280) (444 + 61 * k + 7) (r_voltsOf_v f (Int32.ofNat k) k)) := by
        simp only [r_goKept_b117_j141_0, if_pos h2]
      rw [e0] at hJ
      exact hJ
    · refine fl_Tq.jt rfl (fl_bo rfl) (c2_le_t h2) rfl ?_
      have e0 : (fl_row f 280 (upd (f 280) (444 + 61 * k + 7) (r_goKept_b117_j141_0 f z k))) = f := by
        simp only [r_goKept_b117_j141_0, if_neg h2]
        funext q j
        simp only [fl_row, upd]
        repeat' split
        all_goals first | rfl | simp_all
      rw [e0] at hJ
      exact hJ
  refine hj143 ?_
  show fl_Tq _ 235 152 [some (.inr (.inr (.inl (76, 277)))), some (.inl z), some (.inl (Int32.ofNat k)), some (.inl (r_voltsOf_v f (Int32.ofNat k) k))] [] (fl_row f 280 (upd (f 280) (444 + 61 * k + 7) (r_goKept_b117_j141_0 f z k)), l) _
  refine fl_Tq.stp (pc' := 153) (lv' := [some (.inr (.inr (.inl (76, 277)))), some (.inl z), some (.inl (Int32.ofNat k)), some (.inl (r_voltsOf_v f (Int32.ofNat k) k))]) (st' := [.inl (r_voltsOf_v f (Int32.ofNat k) k)]) (m' := (fl_row f 280 (upd (f 280) (444 + 61 * k + 7) (r_goKept_b117_j141_0 f z k)), l)) rfl rfl (fl_bo rfl) rfl ?_
  refine fl_Tq.stp (pc' := 154) (lv' := [some (.inr (.inr (.inl (76, 277)))), some (.inl z), some (.inl (Int32.ofNat k)), some (.inl (r_voltsOf_v f (Int32.ofNat k) k))]) (st' := [.inr (.inr (.inl (76, 277))), .inl (r_voltsOf_v f (Int32.ofNat k) k)]) (m' := (fl_row f 280 (upd (f 280) (444 + 61 * k + 7) (r_goKept_b117_j141_0 f z k)), l)) rfl rfl (fl_bo rfl) rfl ?_
  refine fl_Tq.stp (pc' := 155) (lv' := [some (.inr (.inr (.inl (76, 277)))), some (.inl z), some (.inl (Int32.ofNat k)), some (.inl (r_voltsOf_v f (Int32.ofNat k) k))]) (st' := [.inl (Int32.ofNat k), .inr (.inr (.inl (76, 277))), .inl (r_voltsOf_v f (Int32.ofNat k) k)]) (m' := (fl_row f 280 (upd (f 280) (444 + 61 * k + 7) (r_goKept_b117_j141_0 f z k)), l)) rfl rfl (fl_bo rfl) rfl ?_
  refine fl_Tq.cB (c := (8 : Int32)) rfl (by decide +kernel) (fl_bo rfl) ?_
  refine fl_Tq.cal rfl rfl (fl_bo rfl) rfl ?_
  refine t2_get (C := k) (W := 8) (v := f 280 (444 + 61 * k + 8)) (at_ofN (by omega)) (by decide +kernel) (by omega) (by decide) (by simp only [fl_row_self, upd_ne (by omega : 444 + 61 * k + 8 ≠ 444 + 61 * k + 7)]) ?_
  show fl_Tq _ 235 160 [some (.inr (.inr (.inl (76, 277)))), some (.inl z), some (.inl (Int32.ofNat k)), some (.inl (r_voltsOf_v f (Int32.ofNat k) k))] [.inl (f 280 (444 + 61 * k + 8)), .inl (r_voltsOf_v f (Int32.ofNat k) k)] (fl_row f 280 (upd (f 280) (444 + 61 * k + 7) (r_goKept_b117_j141_0 f z k)), l) _
  have hj144 : fl_Tq (pw_P L xs) 235 171 [some (.inr (.inr (.inl (76, 277)))), some (.inl z), some (.inl (Int32.ofNat k)), some (.inl (r_voltsOf_v f (Int32.ofNat k) k))] [] (fl_row f 280 (upd (upd (f 280) (444 + 61 * k + 7) (r_goKept_b117_j141_0 f z k)) (444 + 61 * k + 8) (r_goKept_b117_j160_0 f z k)), l) Q → fl_Tq (pw_P L xs) 235 160 [some (.inr (.inr (.inl (76, 277)))), some (.inl z), some (.inl (Int32.ofNat k)), some (.inl (r_voltsOf_v f (Int32.ofNat k) k))] [.inl (f 280 (444 + 61 * k + 8)), .inl (r_voltsOf_v f (Int32.ofNat k) k)] (fl_row f 280 (upd (f 280) (444 + 61 * k + 7) (r_goKept_b117_j141_0 f z k)), l) Q := by
    intro hJ
    by_cases h3 : (r_voltsOf_v f (Int32.ofNat k) k).toInt < (f 280 (444 + 61 * k + 8)).toInt
    · refine fl_Tq.jf rfl (fl_bo rfl) (c2_ge_f h3) rfl ?_
      refine fl_Tq.stp (pc' := 164) (lv' := [some (.inr (.inr (.inl (76, 277)))), some (.inl z), some (.inl (Int32.ofNat k)), some (.inl (r_voltsOf_v f (Int32.ofNat k) k))]) (st' := [.inr (.inr (.inl (76, 277)))]) (m' := (fl_row f 280 (upd (f 280) (444 + 61 * k + 7) (r_goKept_b117_j141_0 f z k)), l)) rfl rfl (fl_bo rfl) rfl ?_
      refine fl_Tq.stp (pc' := 165) (lv' := [some (.inr (.inr (.inl (76, 277)))), some (.inl z), some (.inl (Int32.ofNat k)), some (.inl (r_voltsOf_v f (Int32.ofNat k) k))]) (st' := [.inl (Int32.ofNat k), .inr (.inr (.inl (76, 277)))]) (m' := (fl_row f 280 (upd (f 280) (444 + 61 * k + 7) (r_goKept_b117_j141_0 f z k)), l)) rfl rfl (fl_bo rfl) rfl ?_
      refine fl_Tq.cB (c := (8 : Int32)) rfl (by decide +kernel) (fl_bo rfl) ?_
      refine fl_Tq.stp (pc' := 168) (lv' := [some (.inr (.inr (.inl (76, 277)))), some (.inl z), some (.inl (Int32.ofNat k)), some (.inl (r_voltsOf_v f (Int32.ofNat k) k))]) (st' := [.inl (r_voltsOf_v f (Int32.ofNat k) k), .inl (8 : Int32), .inl (Int32.ofNat k), .inr (.inr (.inl (76, 277)))]) (m' := (fl_row f 280 (upd (f 280) (444 + 61 * k + 7) (r_goKept_b117_j141_0 f z k)), l)) rfl rfl (fl_bo rfl) rfl ?_
      refine fl_Tq.cal rfl rfl (fl_bo rfl) rfl ?_
      refine t2_let (C := k) (W := 8) (m' := (fl_row f 280 (upd (upd (f 280) (444 + 61 * k + 7) (r_goKept_b117_j141_0 f z k)) (444 + 61 * k + 8) (r_voltsOf_v f (Int32.ofNat k) k)), l)) (at_ofN (by omega)) (by decide +kernel) (by omega) (by decide) (t2_upr) ?_
      show fl_Tq _ 235 171 [some (.inr (.inr (.inl (76, 277)))), some (.inl z), some (.inl (Int32.ofNat k)), some (.inl (r_voltsOf_v f (Int32.ofNat k) k))] [] (fl_row f 280 (upd (upd (f 280) (444 + 61 * k + 7) (r_goKept_b117_j141_0 f z k)) (444 + 61 * k + 8) (r_voltsOf_v f (Int32.ofNat k) k)), l) _
      have e0 : (fl_row f 280 (upd (upd (f 280) (444 + 61 * k + 7) (r_goKept_b117_j141_0 f z k)) (444 + 61 * k + 8) (r_goKept_b117_j160_0 f z k))) = fl_row f 280 (upd (upd (f 280) (444 + 61 * k + 7) (r_goKept_b117_j141_0 f z k)) (444 + 61 * k + 8) (r_voltsOf_v f (Int32.ofNat k) k)) := by
        simp only [r_goKept_b117_j160_0, if_pos h3]
      rw [e0] at hJ
      exact hJ
    · refine fl_Tq.jt rfl (fl_bo rfl) (c2_ge_t h3) rfl ?_
      have e0 : (fl_row f 280 (upd (upd (f 280) (444 + 61 * k + 7) (r_goKept_b117_j141_0 f z k)) (444 + 61 * k + 8) (r_goKept_b117_j160_0 f z k))) = fl_row f 280 (upd (f 280) (444 + 61 * k + 7) (r_goKept_b117_j141_0 f z k)) := by
        simp only [r_goKept_b117_j160_0, if_neg h3]
        funext q j
        simp only [fl_row, upd]
        repeat' split
        all_goals first | rfl | simp_all
      rw [e0] at hJ
      exact hJ
  refine hj144 ?_
  show fl_Tq _ 235 171 [some (.inr (.inr (.inl (76, 277)))), some (.inl z), some (.inl (Int32.ofNat k)), some (.inl (r_voltsOf_v f (Int32.ofNat k) k))] [] (fl_row f 280 (upd (upd (f 280) (444 + 61 * k + 7) (r_goKept_b117_j141_0 f z k)) (444 + 61 * k + 8) (r_goKept_b117_j160_0 f z k)), l) _
  refine fl_Tq.stp (pc' := 172) (lv' := [some (.inr (.inr (.inl (76, 277)))), some (.inl z), some (.inl (Int32.ofNat k)), some (.inl (r_voltsOf_v f (Int32.ofNat k) k))]) (st' := [.inr (.inr (.inl (76, 277)))]) (m' := (fl_row f 280 (upd (upd (f 280) (444 + 61 * k + 7) (r_goKept_b117_j141_0 f z k)) (444 + 61 * k + 8) (r_goKept_b117_j160_0 f z k)), l)) rfl rfl (fl_bo rfl) rfl ?_
  refine fl_Tq.stp (pc' := 173) (lv' := [some (.inr (.inr (.inl (76, 277)))), some (.inl z), some (.inl (Int32.ofNat k)), some (.inl (r_voltsOf_v f (Int32.ofNat k) k))]) (st' := [.inl (Int32.ofNat k), .inr (.inr (.inl (76, 277)))]) (m' := (fl_row f 280 (upd (upd (f 280) (444 + 61 * k + 7) (r_goKept_b117_j141_0 f z k)) (444 + 61 * k + 8) (r_goKept_b117_j160_0 f z k)), l)) rfl rfl (fl_bo rfl) rfl ?_
  refine fl_Tq.cal rfl rfl (fl_bo rfl) rfl ?_
  refine r_goTurn_q (at_ofN (by omega)) (by omega) (by simp only [fl_row_self, upd_ne (by omega : 444 + 61 * k + 10 ≠ 444 + 61 * k + 8), upd_ne (by omega : 444 + 61 * k + 10 ≠ 444 + 61 * k + 7)]; exact ht) (fun t ht => by simp only [fl_row_self, upd_ne (by omega : 444 + 61 * k + (17 + t) ≠ 444 + 61 * k + 8), upd_ne (by omega : 444 + 61 * k + (17 + t) ≠ 444 + 61 * k + 7)]; exact hv t ht) (by unfold t2_ck; simp only [fl_row_self, upd_ne (by omega : 444 + 61 * k + 0 ≠ 444 + 61 * k + 8), upd_ne (by omega : 444 + 61 * k + 0 ≠ 444 + 61 * k + 7), upd_ne (by omega : 444 + 61 * k + 1 ≠ 444 + 61 * k + 8), upd_ne (by omega : 444 + 61 * k + 1 ≠ 444 + 61 * k + 7)]; exact hkk) ?_
  show fl_Tq _ 235 176 [some (.inr (.inr (.inl (76, 277)))), some (.inl z), some (.inl (Int32.ofNat k)), some (.inl (r_voltsOf_v f (Int32.ofNat k) k))] [] (r_goTurn_m (fl_row f 280 (upd (upd (f 280) (444 + 61 * k + 7) (r_goKept_b117_j141_0 f z k)) (444 + 61 * k + 8) (r_goKept_b117_j160_0 f z k))) (Int32.ofNat k) k, l) _
  refine fl_Tq.stp (pc' := 179) (lv' := [some (.inr (.inr (.inl (76, 277)))), some (.inl z), some (.inl ((Int32.ofNat k) + (1 : Int32))), some (.inl (r_voltsOf_v f (Int32.ofNat k) k))]) (st' := []) (m' := (r_goTurn_m (fl_row f 280 (upd (upd (f 280) (444 + 61 * k + 7) (r_goKept_b117_j141_0 f z k)) (444 + 61 * k + 8) (r_goKept_b117_j160_0 f z k))) (Int32.ofNat k) k, l)) rfl rfl (fl_bo rfl) rfl ?_
  refine fl_Tq.stp (pc' := 117) (lv' := [some (.inr (.inr (.inl (76, 277)))), some (.inl z), some (.inl ((Int32.ofNat k) + (1 : Int32))), some (.inl (r_voltsOf_v f (Int32.ofNat k) k))]) (st' := []) (m' := (r_goTurn_m (fl_row f 280 (upd (upd (f 280) (444 + 61 * k + 7) (r_goKept_b117_j141_0 f z k)) (444 + 61 * k + 8) (r_goKept_b117_j160_0 f z k))) (Int32.ofNat k) k, l)) rfl rfl (fl_bo rfl) rfl ?_
  have em : r_goKept_b117_m f z k = r_goTurn_m (fl_row f 280 (upd (upd (f 280) (444 + 61 * k + 7) (r_goKept_b117_j141_0 f z k)) (444 + 61 * k + 8) (r_goKept_b117_j160_0 f z k))) (Int32.ofNat k) k := rfl
  rw [em, ← t2_k1] at hS
  exact fl_Tq.fg hS ⟨rfl, rfl, rfl, True.intro⟩
noncomputable def r_goKept_f117 (f : t2_F)  : Nat → t2_F
  | 0 => fl_row (r_goKept_m9 f) 280 (upd (upd (upd (upd ((r_goKept_m9 f) 280) (215 + (3 * (((r_goKept_m9 f) 280 21).toInt.toNat))) (f 280 5)) ((215 + (3 * (((r_goKept_m9 f) 280 21).toInt.toNat))) + 1) (r_pack_v (fl_row (r_goKept_m9 f) 280 (upd ((r_goKept_m9 f) 280) (215 + (3 * (((r_goKept_m9 f) 280 21).toInt.toNat))) (f 280 5))))) ((215 + (3 * (((r_goKept_m9 f) 280 21).toInt.toNat))) + 2) (r_spreadOf_v (fl_row (r_goKept_m9 f) 280 (upd (upd ((r_goKept_m9 f) 280) (215 + (3 * (((r_goKept_m9 f) 280 21).toInt.toNat))) (f 280 5)) ((215 + (3 * (((r_goKept_m9 f) 280 21).toInt.toNat))) + 1) (r_pack_v (fl_row (r_goKept_m9 f) 280 (upd ((r_goKept_m9 f) 280) (215 + (3 * (((r_goKept_m9 f) 280 21).toInt.toNat))) (f 280 5)))))))) 21 (((r_goKept_m9 f) 280 21) + (1 : Int32)))
  | k + 1 => r_goKept_b117_m (r_goKept_f117 f k) ((215 : Int32) + ((3 : Int32) * ((r_goKept_m9 f) 280 21))) k
theorem r_goKept_f117_fr {f : t2_F}  {p : Nat} : ∀ {k : Nat}  (e280 : p ≠ 280), r_goKept_f117 f k p = (fl_row (r_goKept_m9 f) 280 (upd (upd (upd (upd ((r_goKept_m9 f) 280) (215 + (3 * (((r_goKept_m9 f) 280 21).toInt.toNat))) (f 280 5)) ((215 + (3 * (((r_goKept_m9 f) 280 21).toInt.toNat))) + 1) (r_pack_v (fl_row (r_goKept_m9 f) 280 (upd ((r_goKept_m9 f) 280) (215 + (3 * (((r_goKept_m9 f) 280 21).toInt.toNat))) (f 280 5))))) ((215 + (3 * (((r_goKept_m9 f) 280 21).toInt.toNat))) + 2) (r_spreadOf_v (fl_row (r_goKept_m9 f) 280 (upd (upd ((r_goKept_m9 f) 280) (215 + (3 * (((r_goKept_m9 f) 280 21).toInt.toNat))) (f 280 5)) ((215 + (3 * (((r_goKept_m9 f) 280 21).toInt.toNat))) + 1) (r_pack_v (fl_row (r_goKept_m9 f) 280 (upd ((r_goKept_m9 f) 280) (215 + (3 * (((r_goKept_m9 f) 280 21).toInt.toNat))) (f 280 5)))))))) 21 (((r_goKept_m9 f) 280 21) + (1 : Int32)))) p := by
  intro k
  induction k with
  | zero => intros; rfl
  | succ k ih =>
    intro  e280
    exact (r_goKept_b117_fr (z := (215 : Int32) + ((3 : Int32) * ((r_goKept_m9 f) 280 21))) (k := k)  e280).trans (ih  e280)
theorem r_goKept_0w {f : t2_F} (htr : 0 ≤ (f 280 21).toInt ∧ (f 280 21).toInt ≤ 32) {w : Nat} (hw : w ≠ 21 ∧ (w < 215 ∨ 311 ≤ w)) : r_goKept_f117 f 0 280 w = f 280 w := by
  have h9 := r_goKept_m9_t htr
  show fl_row _ 280 _ 280 w = _
  rw [fl_row_self, upd_ne (by omega), upd_ne (by omega), upd_ne (by omega), upd_ne (by omega), r_goKept_m9_w hw]
theorem r_goKept_f117_w {f : t2_F} (hn : 0 ≤ (f 280 2).toInt ∧ (f 280 2).toInt ≤ 16) (hk : ∀ C : Nat, (C : Int) < (f 280 2).toInt → t2_ck f C) (htr : 0 ≤ (f 280 21).toInt ∧ (f 280 21).toInt ≤ 32) (hkt : ∀ C : Nat, (C : Int) < (f 280 2).toInt → (1 ≤ (f 280 (444 + 61 * C + 10)).toInt ∧ (f 280 (444 + 61 * C + 10)).toInt ≤ 32) ∧ r_tv f C) : ∀ {k : Nat} (hkb : k ≤ (f 280 2).toInt.toNat) {w : Nat} (hw : w < 444 ∨ 444 + 61 * k ≤ w) (hw2 : w ≠ 21 ∧ (w < 215 ∨ 311 ≤ w)), r_goKept_f117 f k 280 w = f 280 w := by
  intro k
  induction k with
  | zero => intro _ w _ hw2; exact r_goKept_0w htr hw2
  | succ k ih =>
    intro hkb w hw hw2
    have ih := @ih (by omega)
    have hkk := hkt k (by omega)
    refine (r_goKept_b117_w ?_ ?_ ?_ (by omega)).trans (ih (by omega) hw2)
    · rw [ih (Or.inr (by omega)) (by omega)]
      exact hkk.1
    · intro t ht
      rw [ih (Or.inr (by omega)) (by omega)]
      exact hkk.2 t ht
    · unfold t2_ck
      rw [ih (Or.inr (by omega)) (by omega), ih (Or.inr (by omega)) (by omega)]
      exact hk k (by omega)
theorem r_goKept_f117_rs {f : t2_F} {k : Nat} (hr : t2_RS f) : t2_RS (r_goKept_f117 f k) := fun j => by
  rw [r_goKept_f117_fr (by decide), fl_row_ne (by decide), r_goKept_m9_fr (by decide)]
  exact hr j
theorem r_goKept_f117_at {f : t2_F} (hn : 0 ≤ (f 280 2).toInt ∧ (f 280 2).toInt ≤ 16) (hk : ∀ C : Nat, (C : Int) < (f 280 2).toInt → t2_ck f C) (htr : 0 ≤ (f 280 21).toInt ∧ (f 280 21).toInt ≤ 32) (hkt : ∀ C : Nat, (C : Int) < (f 280 2).toInt → (1 ≤ (f 280 (444 + 61 * C + 10)).toInt ∧ (f 280 (444 + 61 * C + 10)).toInt ≤ 32) ∧ r_tv f C) {k : Nat} (hkb : k < (f 280 2).toInt.toNat) : t2_ck (r_goKept_f117 f k) k ∧ (1 ≤ (r_goKept_f117 f k 280 (444 + 61 * k + 10)).toInt ∧ (r_goKept_f117 f k 280 (444 + 61 * k + 10)).toInt ≤ 32) ∧ r_tv (r_goKept_f117 f k) k := by
  have e : ∀ w : Nat, 444 + 61 * k ≤ w → r_goKept_f117 f k 280 w = f 280 w := fun w hw => r_goKept_f117_w hn hk htr hkt (by omega) (Or.inr hw) (by omega)
  have hkk := hkt k (by omega)
  refine ⟨?_, ?_, fun t ht => ?_⟩
  · unfold t2_ck
    rw [e _ (by omega), e _ (by omega)]
    exact hk k (by omega)
  · rw [e _ (by omega)]
    exact hkk.1
  · rw [e _ (by omega)]
    exact hkk.2 t ht
noncomputable def r_goKept_m (f : t2_F) : t2_F := r_goKept_f117 f ((f 280 2).toInt.toNat)
theorem r_goKept_q {L : Nat} {xs : Nat → Int32} {f : t2_F} {l : t2_L} {Q : Option fl_V → fl_M → Prop}  (hn : 0 ≤ (f 280 2).toInt ∧ (f 280 2).toInt ≤ 16) (hr : t2_RS f) (hk : ∀ C : Nat, (C : Int) < (f 280 2).toInt → t2_ck f C) (htr : 0 ≤ (f 280 21).toInt ∧ (f 280 21).toInt ≤ 32) (hkt : ∀ C : Nat, (C : Int) < (f 280 2).toInt → (1 ≤ (f 280 (444 + 61 * C + 10)).toInt ∧ (f 280 (444 + 61 * C + 10)).toInt ≤ 32) ∧ r_tv f C) (k : Q none (r_goKept_m f, l)) : fl_Tq (pw_P L xs) 235 0 (fl_args (am_mxl (pw_P L xs) 235) [.inr (.inr (.inl (76, 277)))]) [] (f, l) Q := by
  refine fl_Tq.stp (pc' := 1) (lv' := [some (.inr (.inr (.inl (76, 277)))), none, none, none]) (st' := [.inr (.inr (.inl (76, 277)))]) (m' := (f, l)) rfl rfl (fl_bo rfl) rfl ?_
  refine fl_Tq.stp (pc' := 4) (lv' := [some (.inr (.inr (.inl (76, 277)))), none, none, none]) (st' := [.inr (.inr (.inl (79, 280)))]) (m' := (f, l)) rfl rfl (fl_bo rfl) rfl ?_
  refine fl_Tq.cB (c := (21 : Int32)) rfl (by decide +kernel) (fl_bo rfl) ?_
  refine fl_Tq.ldV (p := 280) (τ := 79) (n := 29780) (z := (0, 0, 0)) (k := 21) (v := f 280 21) rfl (fl_bo rfl) rfl (by decide +kernel) (by decide) rfl ?_
  refine fl_Tq.cB (c := (32 : Int32)) rfl (by decide +kernel) (fl_bo rfl) ?_
  have hj142 : fl_Tq (pw_P L xs) 235 54 [some (.inr (.inr (.inl (76, 277)))), none, none, none] [] (r_goKept_m9 f, l) Q → fl_Tq (pw_P L xs) 235 9 [some (.inr (.inr (.inl (76, 277)))), none, none, none] [.inl (32 : Int32), .inl (f 280 21)] (f, l) Q := by
    intro hJ
    by_cases h1 : (f 280 21).toInt = (32 : Int32).toInt
    · refine fl_Tq.jf rfl (fl_bo rfl) (c2_ne_f h1) rfl ?_
      refine fl_Tq.cS (c := (215 : Int32)) rfl (by decide +kernel) (fl_bo rfl) ?_
      refine fl_Tq.stp (pc' := 16) (lv' := [some (.inr (.inr (.inl (76, 277)))), some (.inl (215 : Int32)), none, none]) (st' := []) (m' := (f, l)) rfl rfl (fl_bo rfl) rfl ?_
      have hs16 : ∀ k : Nat, k < 93 → fl_Tq (pw_P L xs) 235 16 [some (.inr (.inr (.inl (76, 277)))), some (.inl (Int32.ofNat (215 + (k + 1)))), none, none] [] (r_goKept_f16 f (k + 1), l) Q → fl_Tq (pw_P L xs) 235 16 [some (.inr (.inr (.inl (76, 277)))), some (.inl (Int32.ofNat (215 + k))), none, none] [] (r_goKept_f16 f k, l) Q := fun k hkn hS => r_goKept_b16_q hkn (by omega)  hS
      refine t2_for (S := fun k => fl_Tq (pw_P L xs) 235 16 [some (.inr (.inr (.inl (76, 277)))), some (.inl (Int32.ofNat (215 + k))), none, none] [] (r_goKept_f16 f k, l) Q) hs16 ?_
      show fl_Tq (pw_P L xs) 235 16 [some (.inr (.inr (.inl (76, 277)))), some (.inl (Int32.ofNat (215 + 93))), none, none] [] (r_goKept_f16 f 93, l) _
      refine fl_Tq.stp (pc' := 17) (lv' := [some (.inr (.inr (.inl (76, 277)))), some (.inl (Int32.ofNat (215 + 93))), none, none]) (st' := [.inl (Int32.ofNat (215 + 93))]) (m' := (r_goKept_f16 f 93, l)) rfl rfl (fl_bo rfl) rfl ?_
      refine fl_Tq.cS (c := (308 : Int32)) rfl (by decide +kernel) (fl_bo rfl) ?_
      refine fl_Tq.jt rfl (fl_bo rfl) (c2_ge_t (by have c308 : (308 : Int32).toInt = 308 := (by decide +kernel); have e2 : (Int32.ofNat (215 + 93)).toInt = ((215 + 93 : Nat) : Int) := at_ofN (by omega); omega)) rfl ?_
      refine fl_Tq.stp (pc' := 44) (lv' := [some (.inr (.inr (.inl (76, 277)))), some (.inl (Int32.ofNat (215 + 93))), none, none]) (st' := [.inr (.inr (.inl (76, 277)))]) (m' := (r_goKept_f16 f 93, l)) rfl rfl (fl_bo rfl) rfl ?_
      refine fl_Tq.stp (pc' := 47) (lv' := [some (.inr (.inr (.inl (76, 277)))), some (.inl (Int32.ofNat (215 + 93))), none, none]) (st' := [.inr (.inr (.inl (79, 280)))]) (m' := (r_goKept_f16 f 93, l)) rfl rfl (fl_bo rfl) rfl ?_
      refine fl_Tq.cB (c := (21 : Int32)) rfl (by decide +kernel) (fl_bo rfl) ?_
      refine fl_Tq.stp (pc' := 50) (lv' := [some (.inr (.inr (.inl (76, 277)))), some (.inl (Int32.ofNat (215 + 93))), none, none]) (st' := [.inl (21 : Int32), .inr (.inr (.inl (79, 280))), .inl (21 : Int32), .inr (.inr (.inl (79, 280)))]) (m' := (r_goKept_f16 f 93, l)) rfl rfl (fl_bo rfl) rfl ?_
      refine fl_Tq.ldV (p := 280) (τ := 79) (n := 29780) (z := (0, 0, 0)) (k := 21) (v := f 280 21) rfl (fl_bo rfl) rfl (by decide +kernel) (by decide) (by simp only [r_goKept_f16_w (f := f) (k := 93) (w := 21) (by omega) (by omega)]) ?_
      refine fl_Tq.cI (c := (1 : Int32)) rfl (by decide +kernel) (fl_bo rfl) ?_
      refine fl_Tq.stp (pc' := 53) (lv' := [some (.inr (.inr (.inl (76, 277)))), some (.inl (Int32.ofNat (215 + 93))), none, none]) (st' := [.inl ((f 280 21) - (1 : Int32)), .inl (21 : Int32), .inr (.inr (.inl (79, 280)))]) (m' := (r_goKept_f16 f 93, l)) rfl rfl (fl_bo rfl) rfl ?_
      refine fl_Tq.svV (p := 280) (τ := 79) (n := 29780) (z := (0, 0, 0)) (k := 21) (m' := (fl_row (r_goKept_f16 f 93) 280 (upd ((r_goKept_f16 f 93) 280) 21 ((f 280 21) - (1 : Int32))), l)) rfl (fl_bo rfl) rfl (by decide +kernel) (by decide) (t2_upn rfl) ?_
      have e0 : (r_goKept_m9 f) = fl_row (r_goKept_f16 f 93) 280 (upd ((r_goKept_f16 f 93) 280) 21 ((f 280 21) - (1 : Int32))) := by simp only [r_goKept_m9, if_pos h1]
      rw [e0] at hJ
      exact fl_Tq.fg hJ ⟨rfl, True.intro⟩
    · refine fl_Tq.jt rfl (fl_bo rfl) (c2_ne_t h1) rfl ?_
      have e0 : (r_goKept_m9 f) = f := by simp only [r_goKept_m9, if_neg h1]
      rw [e0] at hJ
      exact hJ
  refine hj142 ?_
  show fl_Tq _ 235 54 [some (.inr (.inr (.inl (76, 277)))), none, none, none] [] (r_goKept_m9 f, l) _
  refine fl_Tq.cS (c := (215 : Int32)) rfl (by decide +kernel) (fl_bo rfl) ?_
  refine fl_Tq.cI (c := (3 : Int32)) rfl (by decide +kernel) (fl_bo rfl) ?_
  refine fl_Tq.stp (pc' := 59) (lv' := [some (.inr (.inr (.inl (76, 277)))), none, none, none]) (st' := [.inr (.inr (.inl (76, 277))), .inl (3 : Int32), .inl (215 : Int32)]) (m' := (r_goKept_m9 f, l)) rfl rfl (fl_bo rfl) rfl ?_
  refine fl_Tq.stp (pc' := 62) (lv' := [some (.inr (.inr (.inl (76, 277)))), none, none, none]) (st' := [.inr (.inr (.inl (79, 280))), .inl (3 : Int32), .inl (215 : Int32)]) (m' := (r_goKept_m9 f, l)) rfl rfl (fl_bo rfl) rfl ?_
  refine fl_Tq.cB (c := (21 : Int32)) rfl (by decide +kernel) (fl_bo rfl) ?_
  refine fl_Tq.ldV (p := 280) (τ := 79) (n := 29780) (z := (0, 0, 0)) (k := 21) (v := (r_goKept_m9 f) 280 21) rfl (fl_bo rfl) rfl (by decide +kernel) (by decide) rfl ?_
  refine fl_Tq.stp (pc' := 66) (lv' := [some (.inr (.inr (.inl (76, 277)))), none, none, none]) (st' := [.inl ((3 : Int32) * ((r_goKept_m9 f) 280 21)), .inl (215 : Int32)]) (m' := (r_goKept_m9 f, l)) rfl rfl (fl_bo rfl) rfl ?_
  refine fl_Tq.stp (pc' := 67) (lv' := [some (.inr (.inr (.inl (76, 277)))), none, none, none]) (st' := [.inl ((215 : Int32) + ((3 : Int32) * ((r_goKept_m9 f) 280 21)))]) (m' := (r_goKept_m9 f, l)) rfl rfl (fl_bo rfl) rfl ?_
  refine fl_Tq.stp (pc' := 68) (lv' := [some (.inr (.inr (.inl (76, 277)))), some (.inl ((215 : Int32) + ((3 : Int32) * ((r_goKept_m9 f) 280 21)))), none, none]) (st' := []) (m' := (r_goKept_m9 f, l)) rfl rfl (fl_bo rfl) rfl ?_
  refine fl_Tq.stp (pc' := 69) (lv' := [some (.inr (.inr (.inl (76, 277)))), some (.inl ((215 : Int32) + ((3 : Int32) * ((r_goKept_m9 f) 280 21)))), none, none]) (st' := [.inr (.inr (.inl (76, 277)))]) (m' := (r_goKept_m9 f, l)) rfl rfl (fl_bo rfl) rfl ?_
  refine fl_Tq.stp (pc' := 72) (lv' := [some (.inr (.inr (.inl (76, 277)))), some (.inl ((215 : Int32) + ((3 : Int32) * ((r_goKept_m9 f) 280 21)))), none, none]) (st' := [.inr (.inr (.inl (79, 280)))]) (m' := (r_goKept_m9 f, l)) rfl rfl (fl_bo rfl) rfl ?_
  refine fl_Tq.stp (pc' := 73) (lv' := [some (.inr (.inr (.inl (76, 277)))), some (.inl ((215 : Int32) + ((3 : Int32) * ((r_goKept_m9 f) 280 21)))), none, none]) (st' := [.inl ((215 : Int32) + ((3 : Int32) * ((r_goKept_m9 f) 280 21))), .inr (.inr (.inl (79, 280)))]) (m' := (r_goKept_m9 f, l)) rfl rfl (fl_bo rfl) rfl ?_
  refine fl_Tq.stp (pc' := 74) (lv' := [some (.inr (.inr (.inl (76, 277)))), some (.inl ((215 : Int32) + ((3 : Int32) * ((r_goKept_m9 f) 280 21)))), none, none]) (st' := [.inr (.inr (.inl (76, 277))), .inl ((215 : Int32) + ((3 : Int32) * ((r_goKept_m9 f) 280 21))), .inr (.inr (.inl (79, 280)))]) (m' := (r_goKept_m9 f, l)) rfl rfl (fl_bo rfl) rfl ?_
  refine fl_Tq.stp (pc' := 77) (lv' := [some (.inr (.inr (.inl (76, 277)))), some (.inl ((215 : Int32) + ((3 : Int32) * ((r_goKept_m9 f) 280 21)))), none, none]) (st' := [.inr (.inr (.inl (79, 280))), .inl ((215 : Int32) + ((3 : Int32) * ((r_goKept_m9 f) 280 21))), .inr (.inr (.inl (79, 280)))]) (m' := (r_goKept_m9 f, l)) rfl rfl (fl_bo rfl) rfl ?_
  refine fl_Tq.cI (c := (5 : Int32)) rfl (by decide +kernel) (fl_bo rfl) ?_
  refine fl_Tq.ldV (p := 280) (τ := 79) (n := 29780) (z := (0, 0, 0)) (k := 5) (v := f 280 5) rfl (fl_bo rfl) rfl (by decide +kernel) (by decide) (by simp only [r_goKept_m9_w (w := 5) (by omega)]) ?_
  refine fl_Tq.svV (p := 280) (τ := 79) (n := 29780) (z := (0, 0, 0)) (k := 215 + (3 * (((r_goKept_m9 f) 280 21).toInt.toNat))) (m' := (fl_row (r_goKept_m9 f) 280 (upd ((r_goKept_m9 f) 280) (215 + (3 * (((r_goKept_m9 f) 280 21).toInt.toNat))) (f 280 5)), l)) rfl (fl_bo rfl) rfl (t2_ia (by decide +kernel) (t2_im (by decide +kernel) (t2_nn (r_goKept_m9_t htr).1) (by (first | omega | (have := r_goKept_m9_t htr; omega)))) (by (first | omega | (have := r_goKept_m9_t htr; omega)))) (by (first | omega | (have := r_goKept_m9_t htr; omega))) (t2_upn rfl) ?_
  refine fl_Tq.stp (pc' := 81) (lv' := [some (.inr (.inr (.inl (76, 277)))), some (.inl ((215 : Int32) + ((3 : Int32) * ((r_goKept_m9 f) 280 21)))), none, none]) (st' := [.inr (.inr (.inl (76, 277)))]) (m' := (fl_row (r_goKept_m9 f) 280 (upd ((r_goKept_m9 f) 280) (215 + (3 * (((r_goKept_m9 f) 280 21).toInt.toNat))) (f 280 5)), l)) rfl rfl (fl_bo rfl) rfl ?_
  refine fl_Tq.stp (pc' := 84) (lv' := [some (.inr (.inr (.inl (76, 277)))), some (.inl ((215 : Int32) + ((3 : Int32) * ((r_goKept_m9 f) 280 21)))), none, none]) (st' := [.inr (.inr (.inl (79, 280)))]) (m' := (fl_row (r_goKept_m9 f) 280 (upd ((r_goKept_m9 f) 280) (215 + (3 * (((r_goKept_m9 f) 280 21).toInt.toNat))) (f 280 5)), l)) rfl rfl (fl_bo rfl) rfl ?_
  refine fl_Tq.stp (pc' := 85) (lv' := [some (.inr (.inr (.inl (76, 277)))), some (.inl ((215 : Int32) + ((3 : Int32) * ((r_goKept_m9 f) 280 21)))), none, none]) (st' := [.inl ((215 : Int32) + ((3 : Int32) * ((r_goKept_m9 f) 280 21))), .inr (.inr (.inl (79, 280)))]) (m' := (fl_row (r_goKept_m9 f) 280 (upd ((r_goKept_m9 f) 280) (215 + (3 * (((r_goKept_m9 f) 280 21).toInt.toNat))) (f 280 5)), l)) rfl rfl (fl_bo rfl) rfl ?_
  refine fl_Tq.cI (c := (1 : Int32)) rfl (by decide +kernel) (fl_bo rfl) ?_
  refine fl_Tq.stp (pc' := 87) (lv' := [some (.inr (.inr (.inl (76, 277)))), some (.inl ((215 : Int32) + ((3 : Int32) * ((r_goKept_m9 f) 280 21)))), none, none]) (st' := [.inl (((215 : Int32) + ((3 : Int32) * ((r_goKept_m9 f) 280 21))) + (1 : Int32)), .inr (.inr (.inl (79, 280)))]) (m' := (fl_row (r_goKept_m9 f) 280 (upd ((r_goKept_m9 f) 280) (215 + (3 * (((r_goKept_m9 f) 280 21).toInt.toNat))) (f 280 5)), l)) rfl rfl (fl_bo rfl) rfl ?_
  refine fl_Tq.stp (pc' := 88) (lv' := [some (.inr (.inr (.inl (76, 277)))), some (.inl ((215 : Int32) + ((3 : Int32) * ((r_goKept_m9 f) 280 21)))), none, none]) (st' := [.inr (.inr (.inl (76, 277))), .inl (((215 : Int32) + ((3 : Int32) * ((r_goKept_m9 f) 280 21))) + (1 : Int32)), .inr (.inr (.inl (79, 280)))]) (m' := (fl_row (r_goKept_m9 f) 280 (upd ((r_goKept_m9 f) 280) (215 + (3 * (((r_goKept_m9 f) 280 21).toInt.toNat))) (f 280 5)), l)) rfl rfl (fl_bo rfl) rfl ?_
  refine fl_Tq.cal rfl rfl (fl_bo rfl) rfl ?_
  refine r_pack_q (by simp only [fl_row_self, upd_ne (by have := r_goKept_m9_t htr; omega : 2 ≠ 215 + (3 * (((r_goKept_m9 f) 280 21).toInt.toNat))), r_goKept_m9_w (w := 2) (by omega)]; exact hn) (fun j => by simp only [fl_row_ne (by decide : 279 ≠ 280), r_goKept_m9_fr (by decide : 279 ≠ 280)]; exact hr j) (fun C hC => by simp only [fl_row_self, upd_ne (by have := r_goKept_m9_t htr; omega : 2 ≠ 215 + (3 * (((r_goKept_m9 f) 280 21).toInt.toNat))), r_goKept_m9_w (w := 2) (by omega), upd_ne (by have := r_goKept_m9_t htr; omega : 444 + 61 * C + 0 ≠ 215 + (3 * (((r_goKept_m9 f) 280 21).toInt.toNat))), r_goKept_m9_w (w := 444 + 61 * C + 0) (by omega), upd_ne (by have := r_goKept_m9_t htr; omega : 444 + 61 * C + 1 ≠ 215 + (3 * (((r_goKept_m9 f) 280 21).toInt.toNat))), r_goKept_m9_w (w := 444 + 61 * C + 1) (by omega)] at hC; unfold t2_ck; simp only [fl_row_self, upd_ne (by have := r_goKept_m9_t htr; omega : 2 ≠ 215 + (3 * (((r_goKept_m9 f) 280 21).toInt.toNat))), r_goKept_m9_w (w := 2) (by omega), upd_ne (by have := r_goKept_m9_t htr; omega : 444 + 61 * C + 0 ≠ 215 + (3 * (((r_goKept_m9 f) 280 21).toInt.toNat))), r_goKept_m9_w (w := 444 + 61 * C + 0) (by omega), upd_ne (by have := r_goKept_m9_t htr; omega : 444 + 61 * C + 1 ≠ 215 + (3 * (((r_goKept_m9 f) 280 21).toInt.toNat))), r_goKept_m9_w (w := 444 + 61 * C + 1) (by omega)]; exact hk C hC) ?_
  show fl_Tq _ 235 91 [some (.inr (.inr (.inl (76, 277)))), some (.inl ((215 : Int32) + ((3 : Int32) * ((r_goKept_m9 f) 280 21)))), none, none] [.inl (r_pack_v (fl_row (r_goKept_m9 f) 280 (upd ((r_goKept_m9 f) 280) (215 + (3 * (((r_goKept_m9 f) 280 21).toInt.toNat))) (f 280 5)))), .inl (((215 : Int32) + ((3 : Int32) * ((r_goKept_m9 f) 280 21))) + (1 : Int32)), .inr (.inr (.inl (79, 280)))] (fl_row (r_goKept_m9 f) 280 (upd ((r_goKept_m9 f) 280) (215 + (3 * (((r_goKept_m9 f) 280 21).toInt.toNat))) (f 280 5)), l) _
  refine fl_Tq.svV (p := 280) (τ := 79) (n := 29780) (z := (0, 0, 0)) (k := (215 + (3 * (((r_goKept_m9 f) 280 21).toInt.toNat))) + 1) (m' := (fl_row (r_goKept_m9 f) 280 (upd (upd ((r_goKept_m9 f) 280) (215 + (3 * (((r_goKept_m9 f) 280 21).toInt.toNat))) (f 280 5)) ((215 + (3 * (((r_goKept_m9 f) 280 21).toInt.toNat))) + 1) (r_pack_v (fl_row (r_goKept_m9 f) 280 (upd ((r_goKept_m9 f) 280) (215 + (3 * (((r_goKept_m9 f) 280 21).toInt.toNat))) (f 280 5))))), l)) rfl (fl_bo rfl) rfl (t2_ia (t2_ia (by decide +kernel) (t2_im (by decide +kernel) (t2_nn (r_goKept_m9_t htr).1) (by (first | omega | (have := r_goKept_m9_t htr; omega)))) (by (first | omega | (have := r_goKept_m9_t htr; omega)))) (by decide +kernel) (by (first | omega | (have := r_goKept_m9_t htr; omega)))) (by (first | omega | (have := r_goKept_m9_t htr; omega))) (t2_upr) ?_
  refine fl_Tq.stp (pc' := 93) (lv' := [some (.inr (.inr (.inl (76, 277)))), some (.inl ((215 : Int32) + ((3 : Int32) * ((r_goKept_m9 f) 280 21)))), none, none]) (st' := [.inr (.inr (.inl (76, 277)))]) (m' := (fl_row (r_goKept_m9 f) 280 (upd (upd ((r_goKept_m9 f) 280) (215 + (3 * (((r_goKept_m9 f) 280 21).toInt.toNat))) (f 280 5)) ((215 + (3 * (((r_goKept_m9 f) 280 21).toInt.toNat))) + 1) (r_pack_v (fl_row (r_goKept_m9 f) 280 (upd ((r_goKept_m9 f) 280) (215 + (3 * (((r_goKept_m9 f) 280 21).toInt.toNat))) (f 280 5))))), l)) rfl rfl (fl_bo rfl) rfl ?_
  refine fl_Tq.stp (pc' := 96) (lv' := [some (.inr (.inr (.inl (76, 277)))), some (.inl ((215 : Int32) + ((3 : Int32) * ((r_goKept_m9 f) 280 21)))), none, none]) (st' := [.inr (.inr (.inl (79, 280)))]) (m' := (fl_row (r_goKept_m9 f) 280 (upd (upd ((r_goKept_m9 f) 280) (215 + (3 * (((r_goKept_m9 f) 280 21).toInt.toNat))) (f 280 5)) ((215 + (3 * (((r_goKept_m9 f) 280 21).toInt.toNat))) + 1) (r_pack_v (fl_row (r_goKept_m9 f) 280 (upd ((r_goKept_m9 f) 280) (215 + (3 * (((r_goKept_m9 f) 280 21).toInt.toNat))) (f 280 5))))), l)) rfl rfl (fl_bo rfl) rfl ?_
  refine fl_Tq.stp (pc' := 97) (lv' := [some (.inr (.inr (.inl (76, 277)))), some (.inl ((215 : Int32) + ((3 : Int32) * ((r_goKept_m9 f) 280 21)))), none, none]) (st' := [.inl ((215 : Int32) + ((3 : Int32) * ((r_goKept_m9 f) 280 21))), .inr (.inr (.inl (79, 280)))]) (m' := (fl_row (r_goKept_m9 f) 280 (upd (upd ((r_goKept_m9 f) 280) (215 + (3 * (((r_goKept_m9 f) 280 21).toInt.toNat))) (f 280 5)) ((215 + (3 * (((r_goKept_m9 f) 280 21).toInt.toNat))) + 1) (r_pack_v (fl_row (r_goKept_m9 f) 280 (upd ((r_goKept_m9 f) 280) (215 + (3 * (((r_goKept_m9 f) 280 21).toInt.toNat))) (f 280 5))))), l)) rfl rfl (fl_bo rfl) rfl ?_
  refine fl_Tq.cI (c := (2 : Int32)) rfl (by decide +kernel) (fl_bo rfl) ?_
  refine fl_Tq.stp (pc' := 99) (lv' := [some (.inr (.inr (.inl (76, 277)))), some (.inl ((215 : Int32) + ((3 : Int32) * ((r_goKept_m9 f) 280 21)))), none, none]) (st' := [.inl (((215 : Int32) + ((3 : Int32) * ((r_goKept_m9 f) 280 21))) + (2 : Int32)), .inr (.inr (.inl (79, 280)))]) (m' := (fl_row (r_goKept_m9 f) 280 (upd (upd ((r_goKept_m9 f) 280) (215 + (3 * (((r_goKept_m9 f) 280 21).toInt.toNat))) (f 280 5)) ((215 + (3 * (((r_goKept_m9 f) 280 21).toInt.toNat))) + 1) (r_pack_v (fl_row (r_goKept_m9 f) 280 (upd ((r_goKept_m9 f) 280) (215 + (3 * (((r_goKept_m9 f) 280 21).toInt.toNat))) (f 280 5))))), l)) rfl rfl (fl_bo rfl) rfl ?_
  refine fl_Tq.stp (pc' := 100) (lv' := [some (.inr (.inr (.inl (76, 277)))), some (.inl ((215 : Int32) + ((3 : Int32) * ((r_goKept_m9 f) 280 21)))), none, none]) (st' := [.inr (.inr (.inl (76, 277))), .inl (((215 : Int32) + ((3 : Int32) * ((r_goKept_m9 f) 280 21))) + (2 : Int32)), .inr (.inr (.inl (79, 280)))]) (m' := (fl_row (r_goKept_m9 f) 280 (upd (upd ((r_goKept_m9 f) 280) (215 + (3 * (((r_goKept_m9 f) 280 21).toInt.toNat))) (f 280 5)) ((215 + (3 * (((r_goKept_m9 f) 280 21).toInt.toNat))) + 1) (r_pack_v (fl_row (r_goKept_m9 f) 280 (upd ((r_goKept_m9 f) 280) (215 + (3 * (((r_goKept_m9 f) 280 21).toInt.toNat))) (f 280 5))))), l)) rfl rfl (fl_bo rfl) rfl ?_
  refine fl_Tq.cal rfl rfl (fl_bo rfl) rfl ?_
  refine r_spreadOf_q (by simp only [fl_row_self, upd_ne (by have := r_goKept_m9_t htr; omega : 2 ≠ (215 + (3 * (((r_goKept_m9 f) 280 21).toInt.toNat))) + 1), upd_ne (by have := r_goKept_m9_t htr; omega : 2 ≠ 215 + (3 * (((r_goKept_m9 f) 280 21).toInt.toNat))), r_goKept_m9_w (w := 2) (by omega)]; exact hn) (fun C hC => by simp only [fl_row_self, upd_ne (by have := r_goKept_m9_t htr; omega : 2 ≠ (215 + (3 * (((r_goKept_m9 f) 280 21).toInt.toNat))) + 1), upd_ne (by have := r_goKept_m9_t htr; omega : 2 ≠ 215 + (3 * (((r_goKept_m9 f) 280 21).toInt.toNat))), r_goKept_m9_w (w := 2) (by omega), upd_ne (by have := r_goKept_m9_t htr; omega : 444 + 61 * C + 0 ≠ (215 + (3 * (((r_goKept_m9 f) 280 21).toInt.toNat))) + 1), upd_ne (by have := r_goKept_m9_t htr; omega : 444 + 61 * C + 0 ≠ 215 + (3 * (((r_goKept_m9 f) 280 21).toInt.toNat))), r_goKept_m9_w (w := 444 + 61 * C + 0) (by omega), upd_ne (by have := r_goKept_m9_t htr; omega : 444 + 61 * C + 1 ≠ (215 + (3 * (((r_goKept_m9 f) 280 21).toInt.toNat))) + 1), upd_ne (by have := r_goKept_m9_t htr; omega : 444 + 61 * C + 1 ≠ 215 + (3 * (((r_goKept_m9 f) 280 21).toInt.toNat))), r_goKept_m9_w (w := 444 + 61 * C + 1) (by omega)] at hC; unfold t2_ck; simp only [fl_row_self, upd_ne (by have := r_goKept_m9_t htr; omega : 2 ≠ (215 + (3 * (((r_goKept_m9 f) 280 21).toInt.toNat))) + 1), upd_ne (by have := r_goKept_m9_t htr; omega : 2 ≠ 215 + (3 * (((r_goKept_m9 f) 280 21).toInt.toNat))), r_goKept_m9_w (w := 2) (by omega), upd_ne (by have := r_goKept_m9_t htr; omega : 444 + 61 * C + 0 ≠ (215 + (3 * (((r_goKept_m9 f) 280 21).toInt.toNat))) + 1), upd_ne (by have := r_goKept_m9_t htr; omega : 444 + 61 * C + 0 ≠ 215 + (3 * (((r_goKept_m9 f) 280 21).toInt.toNat))), r_goKept_m9_w (w := 444 + 61 * C + 0) (by omega), upd_ne (by have := r_goKept_m9_t htr; omega : 444 + 61 * C + 1 ≠ (215 + (3 * (((r_goKept_m9 f) 280 21).toInt.toNat))) + 1), upd_ne (by have := r_goKept_m9_t htr; omega : 444 + 61 * C + 1 ≠ 215 + (3 * (((r_goKept_m9 f) 280 21).toInt.toNat))), r_goKept_m9_w (w := 444 + 61 * C + 1) (by omega)]; exact hk C hC) ?_
  show fl_Tq _ 235 103 [some (.inr (.inr (.inl (76, 277)))), some (.inl ((215 : Int32) + ((3 : Int32) * ((r_goKept_m9 f) 280 21)))), none, none] [.inl (r_spreadOf_v (fl_row (r_goKept_m9 f) 280 (upd (upd ((r_goKept_m9 f) 280) (215 + (3 * (((r_goKept_m9 f) 280 21).toInt.toNat))) (f 280 5)) ((215 + (3 * (((r_goKept_m9 f) 280 21).toInt.toNat))) + 1) (r_pack_v (fl_row (r_goKept_m9 f) 280 (upd ((r_goKept_m9 f) 280) (215 + (3 * (((r_goKept_m9 f) 280 21).toInt.toNat))) (f 280 5))))))), .inl (((215 : Int32) + ((3 : Int32) * ((r_goKept_m9 f) 280 21))) + (2 : Int32)), .inr (.inr (.inl (79, 280)))] (fl_row (r_goKept_m9 f) 280 (upd (upd ((r_goKept_m9 f) 280) (215 + (3 * (((r_goKept_m9 f) 280 21).toInt.toNat))) (f 280 5)) ((215 + (3 * (((r_goKept_m9 f) 280 21).toInt.toNat))) + 1) (r_pack_v (fl_row (r_goKept_m9 f) 280 (upd ((r_goKept_m9 f) 280) (215 + (3 * (((r_goKept_m9 f) 280 21).toInt.toNat))) (f 280 5))))), l) _
  refine fl_Tq.svV (p := 280) (τ := 79) (n := 29780) (z := (0, 0, 0)) (k := (215 + (3 * (((r_goKept_m9 f) 280 21).toInt.toNat))) + 2) (m' := (fl_row (r_goKept_m9 f) 280 (upd (upd (upd ((r_goKept_m9 f) 280) (215 + (3 * (((r_goKept_m9 f) 280 21).toInt.toNat))) (f 280 5)) ((215 + (3 * (((r_goKept_m9 f) 280 21).toInt.toNat))) + 1) (r_pack_v (fl_row (r_goKept_m9 f) 280 (upd ((r_goKept_m9 f) 280) (215 + (3 * (((r_goKept_m9 f) 280 21).toInt.toNat))) (f 280 5))))) ((215 + (3 * (((r_goKept_m9 f) 280 21).toInt.toNat))) + 2) (r_spreadOf_v (fl_row (r_goKept_m9 f) 280 (upd (upd ((r_goKept_m9 f) 280) (215 + (3 * (((r_goKept_m9 f) 280 21).toInt.toNat))) (f 280 5)) ((215 + (3 * (((r_goKept_m9 f) 280 21).toInt.toNat))) + 1) (r_pack_v (fl_row (r_goKept_m9 f) 280 (upd ((r_goKept_m9 f) 280) (215 + (3 * (((r_goKept_m9 f) 280 21).toInt.toNat))) (f 280 5)))))))), l)) rfl (fl_bo rfl) rfl (t2_ia (t2_ia (by decide +kernel) (t2_im (by decide +kernel) (t2_nn (r_goKept_m9_t htr).1) (by (first | omega | (have := r_goKept_m9_t htr; omega)))) (by (first | omega | (have := r_goKept_m9_t htr; omega)))) (by decide +kernel) (by (first | omega | (have := r_goKept_m9_t htr; omega)))) (by (first | omega | (have := r_goKept_m9_t htr; omega))) (t2_upr) ?_
  refine fl_Tq.stp (pc' := 105) (lv' := [some (.inr (.inr (.inl (76, 277)))), some (.inl ((215 : Int32) + ((3 : Int32) * ((r_goKept_m9 f) 280 21)))), none, none]) (st' := [.inr (.inr (.inl (76, 277)))]) (m' := (fl_row (r_goKept_m9 f) 280 (upd (upd (upd ((r_goKept_m9 f) 280) (215 + (3 * (((r_goKept_m9 f) 280 21).toInt.toNat))) (f 280 5)) ((215 + (3 * (((r_goKept_m9 f) 280 21).toInt.toNat))) + 1) (r_pack_v (fl_row (r_goKept_m9 f) 280 (upd ((r_goKept_m9 f) 280) (215 + (3 * (((r_goKept_m9 f) 280 21).toInt.toNat))) (f 280 5))))) ((215 + (3 * (((r_goKept_m9 f) 280 21).toInt.toNat))) + 2) (r_spreadOf_v (fl_row (r_goKept_m9 f) 280 (upd (upd ((r_goKept_m9 f) 280) (215 + (3 * (((r_goKept_m9 f) 280 21).toInt.toNat))) (f 280 5)) ((215 + (3 * (((r_goKept_m9 f) 280 21).toInt.toNat))) + 1) (r_pack_v (fl_row (r_goKept_m9 f) 280 (upd ((r_goKept_m9 f) 280) (215 + (3 * (((r_goKept_m9 f) 280 21).toInt.toNat))) (f 280 5)))))))), l)) rfl rfl (fl_bo rfl) rfl ?_
  refine fl_Tq.stp (pc' := 108) (lv' := [some (.inr (.inr (.inl (76, 277)))), some (.inl ((215 : Int32) + ((3 : Int32) * ((r_goKept_m9 f) 280 21)))), none, none]) (st' := [.inr (.inr (.inl (79, 280)))]) (m' := (fl_row (r_goKept_m9 f) 280 (upd (upd (upd ((r_goKept_m9 f) 280) (215 + (3 * (((r_goKept_m9 f) 280 21).toInt.toNat))) (f 280 5)) ((215 + (3 * (((r_goKept_m9 f) 280 21).toInt.toNat))) + 1) (r_pack_v (fl_row (r_goKept_m9 f) 280 (upd ((r_goKept_m9 f) 280) (215 + (3 * (((r_goKept_m9 f) 280 21).toInt.toNat))) (f 280 5))))) ((215 + (3 * (((r_goKept_m9 f) 280 21).toInt.toNat))) + 2) (r_spreadOf_v (fl_row (r_goKept_m9 f) 280 (upd (upd ((r_goKept_m9 f) 280) (215 + (3 * (((r_goKept_m9 f) 280 21).toInt.toNat))) (f 280 5)) ((215 + (3 * (((r_goKept_m9 f) 280 21).toInt.toNat))) + 1) (r_pack_v (fl_row (r_goKept_m9 f) 280 (upd ((r_goKept_m9 f) 280) (215 + (3 * (((r_goKept_m9 f) 280 21).toInt.toNat))) (f 280 5)))))))), l)) rfl rfl (fl_bo rfl) rfl ?_
  refine fl_Tq.cB (c := (21 : Int32)) rfl (by decide +kernel) (fl_bo rfl) ?_
  refine fl_Tq.stp (pc' := 111) (lv' := [some (.inr (.inr (.inl (76, 277)))), some (.inl ((215 : Int32) + ((3 : Int32) * ((r_goKept_m9 f) 280 21)))), none, none]) (st' := [.inl (21 : Int32), .inr (.inr (.inl (79, 280))), .inl (21 : Int32), .inr (.inr (.inl (79, 280)))]) (m' := (fl_row (r_goKept_m9 f) 280 (upd (upd (upd ((r_goKept_m9 f) 280) (215 + (3 * (((r_goKept_m9 f) 280 21).toInt.toNat))) (f 280 5)) ((215 + (3 * (((r_goKept_m9 f) 280 21).toInt.toNat))) + 1) (r_pack_v (fl_row (r_goKept_m9 f) 280 (upd ((r_goKept_m9 f) 280) (215 + (3 * (((r_goKept_m9 f) 280 21).toInt.toNat))) (f 280 5))))) ((215 + (3 * (((r_goKept_m9 f) 280 21).toInt.toNat))) + 2) (r_spreadOf_v (fl_row (r_goKept_m9 f) 280 (upd (upd ((r_goKept_m9 f) 280) (215 + (3 * (((r_goKept_m9 f) 280 21).toInt.toNat))) (f 280 5)) ((215 + (3 * (((r_goKept_m9 f) 280 21).toInt.toNat))) + 1) (r_pack_v (fl_row (r_goKept_m9 f) 280 (upd ((r_goKept_m9 f) 280) (215 + (3 * (((r_goKept_m9 f) 280 21).toInt.toNat))) (f 280 5)))))))), l)) rfl rfl (fl_bo rfl) rfl ?_
  refine fl_Tq.ldV (p := 280) (τ := 79) (n := 29780) (z := (0, 0, 0)) (k := 21) (v := (r_goKept_m9 f) 280 21) rfl (fl_bo rfl) rfl (by decide +kernel) (by decide) (by simp only [fl_row_self, upd_ne (by have := r_goKept_m9_t htr; omega : 21 ≠ (215 + (3 * (((r_goKept_m9 f) 280 21).toInt.toNat))) + 2), upd_ne (by have := r_goKept_m9_t htr; omega : 21 ≠ (215 + (3 * (((r_goKept_m9 f) 280 21).toInt.toNat))) + 1), upd_ne (by have := r_goKept_m9_t htr; omega : 21 ≠ 215 + (3 * (((r_goKept_m9 f) 280 21).toInt.toNat)))]) ?_
  refine fl_Tq.cI (c := (1 : Int32)) rfl (by decide +kernel) (fl_bo rfl) ?_
  refine fl_Tq.stp (pc' := 114) (lv' := [some (.inr (.inr (.inl (76, 277)))), some (.inl ((215 : Int32) + ((3 : Int32) * ((r_goKept_m9 f) 280 21)))), none, none]) (st' := [.inl (((r_goKept_m9 f) 280 21) + (1 : Int32)), .inl (21 : Int32), .inr (.inr (.inl (79, 280)))]) (m' := (fl_row (r_goKept_m9 f) 280 (upd (upd (upd ((r_goKept_m9 f) 280) (215 + (3 * (((r_goKept_m9 f) 280 21).toInt.toNat))) (f 280 5)) ((215 + (3 * (((r_goKept_m9 f) 280 21).toInt.toNat))) + 1) (r_pack_v (fl_row (r_goKept_m9 f) 280 (upd ((r_goKept_m9 f) 280) (215 + (3 * (((r_goKept_m9 f) 280 21).toInt.toNat))) (f 280 5))))) ((215 + (3 * (((r_goKept_m9 f) 280 21).toInt.toNat))) + 2) (r_spreadOf_v (fl_row (r_goKept_m9 f) 280 (upd (upd ((r_goKept_m9 f) 280) (215 + (3 * (((r_goKept_m9 f) 280 21).toInt.toNat))) (f 280 5)) ((215 + (3 * (((r_goKept_m9 f) 280 21).toInt.toNat))) + 1) (r_pack_v (fl_row (r_goKept_m9 f) 280 (upd ((r_goKept_m9 f) 280) (215 + (3 * (((r_goKept_m9 f) 280 21).toInt.toNat))) (f 280 5)))))))), l)) rfl rfl (fl_bo rfl) rfl ?_
  refine fl_Tq.svV (p := 280) (τ := 79) (n := 29780) (z := (0, 0, 0)) (k := 21) (m' := (fl_row (r_goKept_m9 f) 280 (upd (upd (upd (upd ((r_goKept_m9 f) 280) (215 + (3 * (((r_goKept_m9 f) 280 21).toInt.toNat))) (f 280 5)) ((215 + (3 * (((r_goKept_m9 f) 280 21).toInt.toNat))) + 1) (r_pack_v (fl_row (r_goKept_m9 f) 280 (upd ((r_goKept_m9 f) 280) (215 + (3 * (((r_goKept_m9 f) 280 21).toInt.toNat))) (f 280 5))))) ((215 + (3 * (((r_goKept_m9 f) 280 21).toInt.toNat))) + 2) (r_spreadOf_v (fl_row (r_goKept_m9 f) 280 (upd (upd ((r_goKept_m9 f) 280) (215 + (3 * (((r_goKept_m9 f) 280 21).toInt.toNat))) (f 280 5)) ((215 + (3 * (((r_goKept_m9 f) 280 21).toInt.toNat))) + 1) (r_pack_v (fl_row (r_goKept_m9 f) 280 (upd ((r_goKept_m9 f) 280) (215 + (3 * (((r_goKept_m9 f) 280 21).toInt.toNat))) (f 280 5)))))))) 21 (((r_goKept_m9 f) 280 21) + (1 : Int32))), l)) rfl (fl_bo rfl) rfl (by decide +kernel) (by decide) (t2_upr) ?_
  refine fl_Tq.cI (c := (0 : Int32)) rfl (by decide +kernel) (fl_bo rfl) ?_
  refine fl_Tq.stp (pc' := 117) (lv' := [some (.inr (.inr (.inl (76, 277)))), some (.inl ((215 : Int32) + ((3 : Int32) * ((r_goKept_m9 f) 280 21)))), some (.inl (0 : Int32)), none]) (st' := []) (m' := (fl_row (r_goKept_m9 f) 280 (upd (upd (upd (upd ((r_goKept_m9 f) 280) (215 + (3 * (((r_goKept_m9 f) 280 21).toInt.toNat))) (f 280 5)) ((215 + (3 * (((r_goKept_m9 f) 280 21).toInt.toNat))) + 1) (r_pack_v (fl_row (r_goKept_m9 f) 280 (upd ((r_goKept_m9 f) 280) (215 + (3 * (((r_goKept_m9 f) 280 21).toInt.toNat))) (f 280 5))))) ((215 + (3 * (((r_goKept_m9 f) 280 21).toInt.toNat))) + 2) (r_spreadOf_v (fl_row (r_goKept_m9 f) 280 (upd (upd ((r_goKept_m9 f) 280) (215 + (3 * (((r_goKept_m9 f) 280 21).toInt.toNat))) (f 280 5)) ((215 + (3 * (((r_goKept_m9 f) 280 21).toInt.toNat))) + 1) (r_pack_v (fl_row (r_goKept_m9 f) 280 (upd ((r_goKept_m9 f) 280) (215 + (3 * (((r_goKept_m9 f) 280 21).toInt.toNat))) (f 280 5)))))))) 21 (((r_goKept_m9 f) 280 21) + (1 : Int32))), l)) rfl rfl (fl_bo rfl) rfl ?_
  have hs117 : ∀ k : Nat, k < (f 280 2).toInt.toNat → fl_Tq (pw_P L xs) 235 117 [some (.inr (.inr (.inl (76, 277)))), some (.inl ((215 : Int32) + ((3 : Int32) * ((r_goKept_m9 f) 280 21)))), some (.inl (Int32.ofNat (k + 1))), none] [] (r_goKept_f117 f (k + 1), l) Q → fl_Tq (pw_P L xs) 235 117 [some (.inr (.inr (.inl (76, 277)))), some (.inl ((215 : Int32) + ((3 : Int32) * ((r_goKept_m9 f) 280 21)))), some (.inl (Int32.ofNat k)), none] [] (r_goKept_f117 f k, l) Q := fun k hkn hS => r_goKept_b117_q hkn (by rw [r_goKept_f117_w hn hk htr hkt (k := k) (by omega) (w := 2) (by omega) (by omega)]; exact t2_nn hn.1) (by omega) (r_goKept_f117_rs hr) (r_goKept_f117_at hn hk htr hkt (k := k) (by omega)).1 (r_goKept_f117_at hn hk htr hkt (k := k) (by omega)).2.1 (r_goKept_f117_at hn hk htr hkt (k := k) (by omega)).2.2 hS
  refine t2_for (S := fun k => fl_Tq (pw_P L xs) 235 117 [some (.inr (.inr (.inl (76, 277)))), some (.inl ((215 : Int32) + ((3 : Int32) * ((r_goKept_m9 f) 280 21)))), some (.inl (Int32.ofNat k)), none] [] (r_goKept_f117 f k, l) Q) hs117 ?_
  show fl_Tq (pw_P L xs) 235 117 [some (.inr (.inr (.inl (76, 277)))), some (.inl ((215 : Int32) + ((3 : Int32) * ((r_goKept_m9 f) 280 21)))), some (.inl (Int32.ofNat ((f 280 2).toInt.toNat))), none] [] (r_goKept_f117 f ((f 280 2).toInt.toNat), l) _
  refine fl_Tq.stp (pc' := 118) (lv' := [some (.inr (.inr (.inl (76, 277)))), some (.inl ((215 : Int32) + ((3 : Int32) * ((r_goKept_m9 f) 280 21)))), some (.inl (Int32.ofNat ((f 280 2).toInt.toNat))), none]) (st' := [.inl (Int32.ofNat ((f 280 2).toInt.toNat))]) (m' := (r_goKept_f117 f ((f 280 2).toInt.toNat), l)) rfl rfl (fl_bo rfl) rfl ?_
  refine fl_Tq.stp (pc' := 119) (lv' := [some (.inr (.inr (.inl (76, 277)))), some (.inl ((215 : Int32) + ((3 : Int32) * ((r_goKept_m9 f) 280 21)))), some (.inl (Int32.ofNat ((f 280 2).toInt.toNat))), none]) (st' := [.inr (.inr (.inl (76, 277))), .inl (Int32.ofNat ((f 280 2).toInt.toNat))]) (m' := (r_goKept_f117 f ((f 280 2).toInt.toNat), l)) rfl rfl (fl_bo rfl) rfl ?_
  refine fl_Tq.stp (pc' := 122) (lv' := [some (.inr (.inr (.inl (76, 277)))), some (.inl ((215 : Int32) + ((3 : Int32) * ((r_goKept_m9 f) 280 21)))), some (.inl (Int32.ofNat ((f 280 2).toInt.toNat))), none]) (st' := [.inr (.inr (.inl (79, 280))), .inl (Int32.ofNat ((f 280 2).toInt.toNat))]) (m' := (r_goKept_f117 f ((f 280 2).toInt.toNat), l)) rfl rfl (fl_bo rfl) rfl ?_
  refine fl_Tq.cI (c := (2 : Int32)) rfl (by decide +kernel) (fl_bo rfl) ?_
  refine fl_Tq.ldV (p := 280) (τ := 79) (n := 29780) (z := (0, 0, 0)) (k := 2) (v := f 280 2) rfl (fl_bo rfl) rfl (by decide +kernel) (by decide) (by simp only [r_goKept_f117_w hn hk htr hkt (f := f) (k := (f 280 2).toInt.toNat) (w := 2) (by omega) (by omega) (by omega)]) ?_
  refine fl_Tq.jt rfl (fl_bo rfl) (c2_ge_t (t2_ln (t2_nn hn.1))) rfl ?_
  exact fl_Tq.ret rfl rfl rfl k

end

/-! 93.00.5.g11.lean.txt -/
section
noncomputable def r_goRules_b2_j40_0 (f : t2_F) (k : Nat) : Int32 := if (f 280 ((79 + (5 * k)) + 1)).toInt = (1 : Int32).toInt then (if (f 280 ((79 + (5 * k)) + 2)).toInt < (r_is_v f (f 280 (79 + (5 * k)))).toInt then f 280 ((79 + (5 * k)) + 4) else f 280 (34 + ((f 280 ((79 + (5 * k)) + 3)).toInt.toNat))) else (if (r_is_v f (f 280 (79 + (5 * k)))).toInt < (f 280 ((79 + (5 * k)) + 2)).toInt then f 280 ((79 + (5 * k)) + 4) else f 280 (34 + ((f 280 ((79 + (5 * k)) + 3)).toInt.toNat)))
noncomputable def r_goRules_b2_m (f : t2_F) (k : Nat) : t2_F := fl_row f 280 (upd (f 280) (34 + ((f 280 ((79 + (5 * k)) + 3)).toInt.toNat)) (r_goRules_b2_j40_0 f k))
theorem r_goRules_b2_fr {f : t2_F} {k : Nat} {p : Nat}  (e280 : p ≠ 280) : r_goRules_b2_m f k p = f p := by
  unfold r_goRules_b2_m
  repeat' split
  all_goals first | rfl | simp only [fl_row_ne e280]
theorem r_goRules_b2_w {f : t2_F} {k : Nat} {w : Nat} (hru : 0 ≤ (f 280 ((79 + (5 * k)) + 3)).toInt ∧ (f 280 ((79 + (5 * k)) + 3)).toInt ≤ 29) (hw : w < 34 ∨ 64 ≤ w) : r_goRules_b2_m f k 280 w = f 280 w := by
  unfold r_goRules_b2_m
  repeat' split
  all_goals first | rfl | simp only [fl_row_self, upd_ne (show w ≠ 34 + ((f 280 ((79 + (5 * k)) + 3)).toInt.toNat) by omega)]
theorem r_goRules_b2_q {L : Nat} {xs : Nat → Int32} {f : t2_F} {l : t2_L} {Q : Option fl_V → fl_M → Prop} {k : Nat} {n : Nat} (hkn : k < n) (hb : (f 280 18).toInt = (n : Int)) (h8 : n ≤ 8) (hn : 0 ≤ (f 280 2).toInt ∧ (f 280 2).toInt ≤ 16) (hr : t2_RS f) (hk : ∀ C : Nat, (C : Int) < (f 280 2).toInt → t2_ck f C) (hru : 0 ≤ (f 280 ((79 + (5 * k)) + 3)).toInt ∧ (f 280 ((79 + (5 * k)) + 3)).toInt ≤ 29) (hS : fl_Tq (pw_P L xs) 236 2 [some (.inr (.inr (.inl (76, 277)))), some (.inl (Int32.ofNat (k + 1))), none, none] [] (r_goRules_b2_m f k, l) Q) : fl_Tq (pw_P L xs) 236 2 [some (.inr (.inr (.inl (76, 277)))), some (.inl (Int32.ofNat k)), none, none] [] (f, l) Q := by
  refine fl_Tq.stp (pc' := 3) (lv' := [some (.inr (.inr (.inl (76, 277)))), some (.inl (Int32.ofNat k)), none, none]) (st' := [.inl (Int32.ofNat k)]) (m' := (f, l)) rfl rfl (fl_bo rfl) rfl ?_
  refine fl_Tq.stp (pc' := 4) (lv' := [some (.inr (.inr (.inl (76, 277)))), some (.inl (Int32.ofNat k)), none, none]) (st' := [.inr (.inr (.inl (76, 277))), .inl (Int32.ofNat k)]) (m' := (f, l)) rfl rfl (fl_bo rfl) rfl ?_
  refine fl_Tq.stp (pc' := 7) (lv' := [some (.inr (.inr (.inl (76, 277)))), some (.inl (Int32.ofNat k)), none, none]) (st' := [.inr (.inr (.inl (79, 280))), .inl (Int32.ofNat k)]) (m' := (f, l)) rfl rfl (fl_bo rfl) rfl ?_
  refine fl_Tq.cB (c := (18 : Int32)) rfl (by decide +kernel) (fl_bo rfl) ?_
  refine fl_Tq.ldV (p := 280) (τ := 79) (n := 29780) (z := (0, 0, 0)) (k := 18) (v := f 280 18) rfl (fl_bo rfl) rfl (by decide +kernel) (by decide) rfl ?_
  refine fl_Tq.jf rfl (fl_bo rfl) (c2_ge_f (t2_lk hkn hb)) rfl ?_
  refine fl_Tq.cB (c := (79 : Int32)) rfl (by decide +kernel) (fl_bo rfl) ?_
  refine fl_Tq.cI (c := (5 : Int32)) rfl (by decide +kernel) (fl_bo rfl) ?_
  refine fl_Tq.stp (pc' := 17) (lv' := [some (.inr (.inr (.inl (76, 277)))), some (.inl (Int32.ofNat k)), none, none]) (st' := [.inl (Int32.ofNat k), .inl (5 : Int32), .inl (79 : Int32)]) (m' := (f, l)) rfl rfl (fl_bo rfl) rfl ?_
  refine fl_Tq.stp (pc' := 18) (lv' := [some (.inr (.inr (.inl (76, 277)))), some (.inl (Int32.ofNat k)), none, none]) (st' := [.inl ((5 : Int32) * (Int32.ofNat k)), .inl (79 : Int32)]) (m' := (f, l)) rfl rfl (fl_bo rfl) rfl ?_
  refine fl_Tq.stp (pc' := 19) (lv' := [some (.inr (.inr (.inl (76, 277)))), some (.inl (Int32.ofNat k)), none, none]) (st' := [.inl ((79 : Int32) + ((5 : Int32) * (Int32.ofNat k)))]) (m' := (f, l)) rfl rfl (fl_bo rfl) rfl ?_
  refine fl_Tq.stp (pc' := 20) (lv' := [some (.inr (.inr (.inl (76, 277)))), some (.inl (Int32.ofNat k)), some (.inl ((79 : Int32) + ((5 : Int32) * (Int32.ofNat k)))), none]) (st' := []) (m' := (f, l)) rfl rfl (fl_bo rfl) rfl ?_
  refine fl_Tq.stp (pc' := 21) (lv' := [some (.inr (.inr (.inl (76, 277)))), some (.inl (Int32.ofNat k)), some (.inl ((79 : Int32) + ((5 : Int32) * (Int32.ofNat k)))), none]) (st' := [.inr (.inr (.inl (76, 277)))]) (m' := (f, l)) rfl rfl (fl_bo rfl) rfl ?_
  refine fl_Tq.stp (pc' := 22) (lv' := [some (.inr (.inr (.inl (76, 277)))), some (.inl (Int32.ofNat k)), some (.inl ((79 : Int32) + ((5 : Int32) * (Int32.ofNat k)))), none]) (st' := [.inr (.inr (.inl (76, 277))), .inr (.inr (.inl (76, 277)))]) (m' := (f, l)) rfl rfl (fl_bo rfl) rfl ?_
  refine fl_Tq.stp (pc' := 25) (lv' := [some (.inr (.inr (.inl (76, 277)))), some (.inl (Int32.ofNat k)), some (.inl ((79 : Int32) + ((5 : Int32) * (Int32.ofNat k)))), none]) (st' := [.inr (.inr (.inl (79, 280))), .inr (.inr (.inl (76, 277)))]) (m' := (f, l)) rfl rfl (fl_bo rfl) rfl ?_
  refine fl_Tq.stp (pc' := 26) (lv' := [some (.inr (.inr (.inl (76, 277)))), some (.inl (Int32.ofNat k)), some (.inl ((79 : Int32) + ((5 : Int32) * (Int32.ofNat k)))), none]) (st' := [.inl ((79 : Int32) + ((5 : Int32) * (Int32.ofNat k))), .inr (.inr (.inl (79, 280))), .inr (.inr (.inl (76, 277)))]) (m' := (f, l)) rfl rfl (fl_bo rfl) rfl ?_
  refine fl_Tq.ldV (p := 280) (τ := 79) (n := 29780) (z := (0, 0, 0)) (k := 79 + (5 * k)) (v := f 280 (79 + (5 * k))) rfl (fl_bo rfl) rfl (t2_ia (by decide +kernel) (t2_im (by decide +kernel) (at_ofN (by omega)) (by omega)) (by omega)) (by omega) rfl ?_
  refine fl_Tq.cal rfl rfl (fl_bo rfl) rfl ?_
  refine r_is_q hn hr hk ?_
  show fl_Tq _ 236 30 [some (.inr (.inr (.inl (76, 277)))), some (.inl (Int32.ofNat k)), some (.inl ((79 : Int32) + ((5 : Int32) * (Int32.ofNat k)))), none] [.inl (r_is_v f (f 280 (79 + (5 * k))))] (f, l) _
  refine fl_Tq.stp (pc' := 31) (lv' := [some (.inr (.inr (.inl (76, 277)))), some (.inl (Int32.ofNat k)), some (.inl ((79 : Int32) + ((5 : Int32) * (Int32.ofNat k)))), some (.inl (r_is_v f (f 280 (79 + (5 * k)))))]) (st' := []) (m' := (f, l)) rfl rfl (fl_bo rfl) rfl ?_
  refine fl_Tq.stp (pc' := 32) (lv' := [some (.inr (.inr (.inl (76, 277)))), some (.inl (Int32.ofNat k)), some (.inl ((79 : Int32) + ((5 : Int32) * (Int32.ofNat k)))), some (.inl (r_is_v f (f 280 (79 + (5 * k)))))]) (st' := [.inr (.inr (.inl (76, 277)))]) (m' := (f, l)) rfl rfl (fl_bo rfl) rfl ?_
  refine fl_Tq.stp (pc' := 35) (lv' := [some (.inr (.inr (.inl (76, 277)))), some (.inl (Int32.ofNat k)), some (.inl ((79 : Int32) + ((5 : Int32) * (Int32.ofNat k)))), some (.inl (r_is_v f (f 280 (79 + (5 * k)))))]) (st' := [.inr (.inr (.inl (79, 280)))]) (m' := (f, l)) rfl rfl (fl_bo rfl) rfl ?_
  refine fl_Tq.stp (pc' := 36) (lv' := [some (.inr (.inr (.inl (76, 277)))), some (.inl (Int32.ofNat k)), some (.inl ((79 : Int32) + ((5 : Int32) * (Int32.ofNat k)))), some (.inl (r_is_v f (f 280 (79 + (5 * k)))))]) (st' := [.inl ((79 : Int32) + ((5 : Int32) * (Int32.ofNat k))), .inr (.inr (.inl (79, 280)))]) (m' := (f, l)) rfl rfl (fl_bo rfl) rfl ?_
  refine fl_Tq.cI (c := (1 : Int32)) rfl (by decide +kernel) (fl_bo rfl) ?_
  refine fl_Tq.stp (pc' := 38) (lv' := [some (.inr (.inr (.inl (76, 277)))), some (.inl (Int32.ofNat k)), some (.inl ((79 : Int32) + ((5 : Int32) * (Int32.ofNat k)))), some (.inl (r_is_v f (f 280 (79 + (5 * k)))))]) (st' := [.inl (((79 : Int32) + ((5 : Int32) * (Int32.ofNat k))) + (1 : Int32)), .inr (.inr (.inl (79, 280)))]) (m' := (f, l)) rfl rfl (fl_bo rfl) rfl ?_
  refine fl_Tq.ldV (p := 280) (τ := 79) (n := 29780) (z := (0, 0, 0)) (k := (79 + (5 * k)) + 1) (v := f 280 ((79 + (5 * k)) + 1)) rfl (fl_bo rfl) rfl (t2_ia (t2_ia (by decide +kernel) (t2_im (by decide +kernel) (at_ofN (by omega)) (by omega)) (by omega)) (by decide +kernel) (by omega)) (by omega) rfl ?_
  refine fl_Tq.cI (c := (1 : Int32)) rfl (by decide +kernel) (fl_bo rfl) ?_
  have hj145 : fl_Tq (pw_P L xs) 236 94 [some (.inr (.inr (.inl (76, 277)))), some (.inl (Int32.ofNat k)), some (.inl ((79 : Int32) + ((5 : Int32) * (Int32.ofNat k)))), some (.inl (r_is_v f (f 280 (79 + (5 * k)))))] [] (fl_row f 280 (upd (f 280) (34 + ((f 280 ((79 + (5 * k)) + 3)).toInt.toNat)) (r_goRules_b2_j40_0 f k)), l) Q → fl_Tq (pw_P L xs) 236 40 [some (.inr (.inr (.inl (76, 277)))), some (.inl (Int32.ofNat k)), some (.inl ((79 : Int32) + ((5 : Int32) * (Int32.ofNat k)))), some (.inl (r_is_v f (f 280 (79 + (5 * k)))))] [.inl (1 : Int32), .inl (f 280 ((79 + (5 * k)) + 1))] (f, l) Q := by
    intro hJ
    by_cases h1 : (f 280 ((79 + (5 * k)) + 1)).toInt = (1 : Int32).toInt
    · refine fl_Tq.jf rfl (fl_bo rfl) (c2_ne_f h1) rfl ?_
      refine fl_Tq.stp (pc' := 44) (lv' := [some (.inr (.inr (.inl (76, 277)))), some (.inl (Int32.ofNat k)), some (.inl ((79 : Int32) + ((5 : Int32) * (Int32.ofNat k)))), some (.inl (r_is_v f (f 280 (79 + (5 * k)))))]) (st' := [.inl (r_is_v f (f 280 (79 + (5 * k))))]) (m' := (f, l)) rfl rfl (fl_bo rfl) rfl ?_
      refine fl_Tq.stp (pc' := 45) (lv' := [some (.inr (.inr (.inl (76, 277)))), some (.inl (Int32.ofNat k)), some (.inl ((79 : Int32) + ((5 : Int32) * (Int32.ofNat k)))), some (.inl (r_is_v f (f 280 (79 + (5 * k)))))]) (st' := [.inr (.inr (.inl (76, 277))), .inl (r_is_v f (f 280 (79 + (5 * k))))]) (m' := (f, l)) rfl rfl (fl_bo rfl) rfl ?_
      refine fl_Tq.stp (pc' := 48) (lv' := [some (.inr (.inr (.inl (76, 277)))), some (.inl (Int32.ofNat k)), some (.inl ((79 : Int32) + ((5 : Int32) * (Int32.ofNat k)))), some (.inl (r_is_v f (f 280 (79 + (5 * k)))))]) (st' := [.inr (.inr (.inl (79, 280))), .inl (r_is_v f (f 280 (79 + (5 * k))))]) (m' := (f, l)) rfl rfl (fl_bo rfl) rfl ?_
      refine fl_Tq.stp (pc' := 49) (lv' := [some (.inr (.inr (.inl (76, 277)))), some (.inl (Int32.ofNat k)), some (.inl ((79 : Int32) + ((5 : Int32) * (Int32.ofNat k)))), some (.inl (r_is_v f (f 280 (79 + (5 * k)))))]) (st' := [.inl ((79 : Int32) + ((5 : Int32) * (Int32.ofNat k))), .inr (.inr (.inl (79, 280))), .inl (r_is_v f (f 280 (79 + (5 * k))))]) (m' := (f, l)) rfl rfl (fl_bo rfl) rfl ?_
      refine fl_Tq.cI (c := (2 : Int32)) rfl (by decide +kernel) (fl_bo rfl) ?_
      refine fl_Tq.stp (pc' := 51) (lv' := [some (.inr (.inr (.inl (76, 277)))), some (.inl (Int32.ofNat k)), some (.inl ((79 : Int32) + ((5 : Int32) * (Int32.ofNat k)))), some (.inl (r_is_v f (f 280 (79 + (5 * k)))))]) (st' := [.inl (((79 : Int32) + ((5 : Int32) * (Int32.ofNat k))) + (2 : Int32)), .inr (.inr (.inl (79, 280))), .inl (r_is_v f (f 280 (79 + (5 * k))))]) (m' := (f, l)) rfl rfl (fl_bo rfl) rfl ?_
      refine fl_Tq.ldV (p := 280) (τ := 79) (n := 29780) (z := (0, 0, 0)) (k := (79 + (5 * k)) + 2) (v := f 280 ((79 + (5 * k)) + 2)) rfl (fl_bo rfl) rfl (t2_ia (t2_ia (by decide +kernel) (t2_im (by decide +kernel) (at_ofN (by omega)) (by omega)) (by omega)) (by decide +kernel) (by omega)) (by omega) rfl ?_
      by_cases h2 : (f 280 ((79 + (5 * k)) + 2)).toInt < (r_is_v f (f 280 (79 + (5 * k)))).toInt
      · refine fl_Tq.jf rfl (fl_bo rfl) (c2_le_f h2) rfl ?_
        refine fl_Tq.stp (pc' := 70) (lv' := [some (.inr (.inr (.inl (76, 277)))), some (.inl (Int32.ofNat k)), some (.inl ((79 : Int32) + ((5 : Int32) * (Int32.ofNat k)))), some (.inl (r_is_v f (f 280 (79 + (5 * k)))))]) (st' := []) (m' := (f, l)) rfl rfl (fl_bo rfl) rfl ?_
        refine fl_Tq.stp (pc' := 71) (lv' := [some (.inr (.inr (.inl (76, 277)))), some (.inl (Int32.ofNat k)), some (.inl ((79 : Int32) + ((5 : Int32) * (Int32.ofNat k)))), some (.inl (r_is_v f (f 280 (79 + (5 * k)))))]) (st' := [.inr (.inr (.inl (76, 277)))]) (m' := (f, l)) rfl rfl (fl_bo rfl) rfl ?_
        refine fl_Tq.stp (pc' := 74) (lv' := [some (.inr (.inr (.inl (76, 277)))), some (.inl (Int32.ofNat k)), some (.inl ((79 : Int32) + ((5 : Int32) * (Int32.ofNat k)))), some (.inl (r_is_v f (f 280 (79 + (5 * k)))))]) (st' := [.inr (.inr (.inl (79, 280)))]) (m' := (f, l)) rfl rfl (fl_bo rfl) rfl ?_
        refine fl_Tq.cB (c := (34 : Int32)) rfl (by decide +kernel) (fl_bo rfl) ?_
        refine fl_Tq.stp (pc' := 77) (lv' := [some (.inr (.inr (.inl (76, 277)))), some (.inl (Int32.ofNat k)), some (.inl ((79 : Int32) + ((5 : Int32) * (Int32.ofNat k)))), some (.inl (r_is_v f (f 280 (79 + (5 * k)))))]) (st' := [.inr (.inr (.inl (76, 277))), .inl (34 : Int32), .inr (.inr (.inl (79, 280)))]) (m' := (f, l)) rfl rfl (fl_bo rfl) rfl ?_
        refine fl_Tq.stp (pc' := 80) (lv' := [some (.inr (.inr (.inl (76, 277)))), some (.inl (Int32.ofNat k)), some (.inl ((79 : Int32) + ((5 : Int32) * (Int32.ofNat k)))), some (.inl (r_is_v f (f 280 (79 + (5 * k)))))]) (st' := [.inr (.inr (.inl (79, 280))), .inl (34 : Int32), .inr (.inr (.inl (79, 280)))]) (m' := (f, l)) rfl rfl (fl_bo rfl) rfl ?_
        refine fl_Tq.stp (pc' := 81) (lv' := [some (.inr (.inr (.inl (76, 277)))), some (.inl (Int32.ofNat k)), some (.inl ((79 : Int32) + ((5 : Int32) * (Int32.ofNat k)))), some (.inl (r_is_v f (f 280 (79 + (5 * k)))))]) (st' := [.inl ((79 : Int32) + ((5 : Int32) * (Int32.ofNat k))), .inr (.inr (.inl (79, 280))), .inl (34 : Int32), .inr (.inr (.inl (79, 280)))]) (m' := (f, l)) rfl rfl (fl_bo rfl) rfl ?_
        refine fl_Tq.cI (c := (3 : Int32)) rfl (by decide +kernel) (fl_bo rfl) ?_
        refine fl_Tq.stp (pc' := 83) (lv' := [some (.inr (.inr (.inl (76, 277)))), some (.inl (Int32.ofNat k)), some (.inl ((79 : Int32) + ((5 : Int32) * (Int32.ofNat k)))), some (.inl (r_is_v f (f 280 (79 + (5 * k)))))]) (st' := [.inl (((79 : Int32) + ((5 : Int32) * (Int32.ofNat k))) + (3 : Int32)), .inr (.inr (.inl (79, 280))), .inl (34 : Int32), .inr (.inr (.inl (79, 280)))]) (m' := (f, l)) rfl rfl (fl_bo rfl) rfl ?_
        refine fl_Tq.ldV (p := 280) (τ := 79) (n := 29780) (z := (0, 0, 0)) (k := (79 + (5 * k)) + 3) (v := f 280 ((79 + (5 * k)) + 3)) rfl (fl_bo rfl) rfl (t2_ia (t2_ia (by decide +kernel) (t2_im (by decide +kernel) (at_ofN (by omega)) (by omega)) (by omega)) (by decide +kernel) (by omega)) (by omega) rfl ?_
        refine fl_Tq.stp (pc' := 85) (lv' := [some (.inr (.inr (.inl (76, 277)))), some (.inl (Int32.ofNat k)), some (.inl ((79 : Int32) + ((5 : Int32) * (Int32.ofNat k)))), some (.inl (r_is_v f (f 280 (79 + (5 * k)))))]) (st' := [.inl ((34 : Int32) + (f 280 ((79 + (5 * k)) + 3))), .inr (.inr (.inl (79, 280)))]) (m' := (f, l)) rfl rfl (fl_bo rfl) rfl ?_
        refine fl_Tq.stp (pc' := 86) (lv' := [some (.inr (.inr (.inl (76, 277)))), some (.inl (Int32.ofNat k)), some (.inl ((79 : Int32) + ((5 : Int32) * (Int32.ofNat k)))), some (.inl (r_is_v f (f 280 (79 + (5 * k)))))]) (st' := [.inr (.inr (.inl (76, 277))), .inl ((34 : Int32) + (f 280 ((79 + (5 * k)) + 3))), .inr (.inr (.inl (79, 280)))]) (m' := (f, l)) rfl rfl (fl_bo rfl) rfl ?_
        refine fl_Tq.stp (pc' := 89) (lv' := [some (.inr (.inr (.inl (76, 277)))), some (.inl (Int32.ofNat k)), some (.inl ((79 : Int32) + ((5 : Int32) * (Int32.ofNat k)))), some (.inl (r_is_v f (f 280 (79 + (5 * k)))))]) (st' := [.inr (.inr (.inl (79, 280))), .inl ((34 : Int32) + (f 280 ((79 + (5 * k)) + 3))), .inr (.inr (.inl (79, 280)))]) (m' := (f, l)) rfl rfl (fl_bo rfl) rfl ?_
        refine fl_Tq.stp (pc' := 90) (lv' := [some (.inr (.inr (.inl (76, 277)))), some (.inl (Int32.ofNat k)), some (.inl ((79 : Int32) + ((5 : Int32) * (Int32.ofNat k)))), some (.inl (r_is_v f (f 280 (79 + (5 * k)))))]) (st' := [.inl ((79 : Int32) + ((5 : Int32) * (Int32.ofNat k))), .inr (.inr (.inl (79, 280))), .inl ((34 : Int32) + (f 280 ((79 + (5 * k)) + 3))), .inr (.inr (.inl (79, 280)))]) (m' := (f, l)) rfl rfl (fl_bo rfl) rfl ?_
        refine fl_Tq.cI (c := (4 : Int32)) rfl (by decide +kernel) (fl_bo rfl) ?_
        refine fl_Tq.stp (pc' := 92) (lv' := [some (.inr (.inr (.inl (76, 277)))), some (.inl (Int32.ofNat k)), some (.inl ((79 : Int32) + ((5 : Int32) * (Int32.ofNat k)))), some (.inl (r_is_v f (f 280 (79 + (5 * k)))))]) (st' := [.inl (((79 : Int32) + ((5 : Int32) * (Int32.ofNat k))) + (4 : Int32)), .inr (.inr (.inl (79, 280))), .inl ((34 : Int32) + (f 280 ((79 + (5 * k)) + 3))), .inr (.inr (.inl (79, 280)))]) (m' := (f, l)) rfl rfl (fl_bo rfl) rfl ?_
        refine fl_Tq.ldV (p := 280) (τ := 79) (n := 29780) (z := (0, 0, 0)) (k := (79 + (5 * k)) + 4) (v := f 280 ((79 + (5 * k)) + 4)) rfl (fl_bo rfl) rfl (t2_ia (t2_ia (by decide +kernel) (t2_im (by decide +kernel) (at_ofN (by omega)) (by omega)) (by omega)) (by decide +kernel) (by omega)) (by omega) rfl ?_
        refine fl_Tq.svV (p := 280) (τ := 79) (n := 29780) (z := (0, 0, 0)) (k := 34 + ((f 280 ((79 + (5 * k)) + 3)).toInt.toNat)) (m' := (fl_row f 280 (upd (f 280) (34 + ((f 280 ((79 + (5 * k)) + 3)).toInt.toNat)) (f 280 ((79 + (5 * k)) + 4))), l)) rfl (fl_bo rfl) rfl (t2_ia (by decide +kernel) (t2_nn hru.1) (by omega)) (by omega) (t2_upn rfl) ?_
        have e0 : (fl_row f 280 (upd (f 280) (34 + ((f 280 ((79 + (5 * k)) + 3)).toInt.toNat)) (r_goRules_b2_j40_0 f k))) = fl_row f 280 (upd (f 280) (34 + ((f 280 ((79 + (5 * k)) + 3)).toInt.toNat)) (f 280 ((79 + (5 * k)) + 4))) := by
          simp only [r_goRules_b2_j40_0, if_pos h1, if_pos h2]
        rw [e0] at hJ
        exact hJ
      · refine fl_Tq.jt rfl (fl_bo rfl) (c2_le_t h2) rfl ?_
        have e0 : (fl_row f 280 (upd (f 280) (34 + ((f 280 ((79 + (5 * k)) + 3)).toInt.toNat)) (r_goRules_b2_j40_0 f k))) = f := by
          simp only [r_goRules_b2_j40_0, if_pos h1, if_neg h2]
          funext q j
          simp only [fl_row, upd]
          repeat' split
          all_goals first | rfl | simp_all
        rw [e0] at hJ
        exact hJ
    · refine fl_Tq.jt rfl (fl_bo rfl) (c2_ne_t h1) rfl ?_
      refine fl_Tq.stp (pc' := 59) (lv' := [some (.inr (.inr (.inl (76, 277)))), some (.inl (Int32.ofNat k)), some (.inl ((79 : Int32) + ((5 : Int32) * (Int32.ofNat k)))), some (.inl (r_is_v f (f 280 (79 + (5 * k)))))]) (st' := [.inl (r_is_v f (f 280 (79 + (5 * k))))]) (m' := (f, l)) rfl rfl (fl_bo rfl) rfl ?_
      refine fl_Tq.stp (pc' := 60) (lv' := [some (.inr (.inr (.inl (76, 277)))), some (.inl (Int32.ofNat k)), some (.inl ((79 : Int32) + ((5 : Int32) * (Int32.ofNat k)))), some (.inl (r_is_v f (f 280 (79 + (5 * k)))))]) (st' := [.inr (.inr (.inl (76, 277))), .inl (r_is_v f (f 280 (79 + (5 * k))))]) (m' := (f, l)) rfl rfl (fl_bo rfl) rfl ?_
      refine fl_Tq.stp (pc' := 63) (lv' := [some (.inr (.inr (.inl (76, 277)))), some (.inl (Int32.ofNat k)), some (.inl ((79 : Int32) + ((5 : Int32) * (Int32.ofNat k)))), some (.inl (r_is_v f (f 280 (79 + (5 * k)))))]) (st' := [.inr (.inr (.inl (79, 280))), .inl (r_is_v f (f 280 (79 + (5 * k))))]) (m' := (f, l)) rfl rfl (fl_bo rfl) rfl ?_
      refine fl_Tq.stp (pc' := 64) (lv' := [some (.inr (.inr (.inl (76, 277)))), some (.inl (Int32.ofNat k)), some (.inl ((79 : Int32) + ((5 : Int32) * (Int32.ofNat k)))), some (.inl (r_is_v f (f 280 (79 + (5 * k)))))]) (st' := [.inl ((79 : Int32) + ((5 : Int32) * (Int32.ofNat k))), .inr (.inr (.inl (79, 280))), .inl (r_is_v f (f 280 (79 + (5 * k))))]) (m' := (f, l)) rfl rfl (fl_bo rfl) rfl ?_
      refine fl_Tq.cI (c := (2 : Int32)) rfl (by decide +kernel) (fl_bo rfl) ?_
      refine fl_Tq.stp (pc' := 66) (lv' := [some (.inr (.inr (.inl (76, 277)))), some (.inl (Int32.ofNat k)), some (.inl ((79 : Int32) + ((5 : Int32) * (Int32.ofNat k)))), some (.inl (r_is_v f (f 280 (79 + (5 * k)))))]) (st' := [.inl (((79 : Int32) + ((5 : Int32) * (Int32.ofNat k))) + (2 : Int32)), .inr (.inr (.inl (79, 280))), .inl (r_is_v f (f 280 (79 + (5 * k))))]) (m' := (f, l)) rfl rfl (fl_bo rfl) rfl ?_
      refine fl_Tq.ldV (p := 280) (τ := 79) (n := 29780) (z := (0, 0, 0)) (k := (79 + (5 * k)) + 2) (v := f 280 ((79 + (5 * k)) + 2)) rfl (fl_bo rfl) rfl (t2_ia (t2_ia (by decide +kernel) (t2_im (by decide +kernel) (at_ofN (by omega)) (by omega)) (by omega)) (by decide +kernel) (by omega)) (by omega) rfl ?_
      by_cases h3 : (r_is_v f (f 280 (79 + (5 * k)))).toInt < (f 280 ((79 + (5 * k)) + 2)).toInt
      · refine fl_Tq.jf rfl (fl_bo rfl) (c2_ge_f h3) rfl ?_
        refine fl_Tq.stp (pc' := 71) (lv' := [some (.inr (.inr (.inl (76, 277)))), some (.inl (Int32.ofNat k)), some (.inl ((79 : Int32) + ((5 : Int32) * (Int32.ofNat k)))), some (.inl (r_is_v f (f 280 (79 + (5 * k)))))]) (st' := [.inr (.inr (.inl (76, 277)))]) (m' := (f, l)) rfl rfl (fl_bo rfl) rfl ?_
        refine fl_Tq.stp (pc' := 74) (lv' := [some (.inr (.inr (.inl (76, 277)))), some (.inl (Int32.ofNat k)), some (.inl ((79 : Int32) + ((5 : Int32) * (Int32.ofNat k)))), some (.inl (r_is_v f (f 280 (79 + (5 * k)))))]) (st' := [.inr (.inr (.inl (79, 280)))]) (m' := (f, l)) rfl rfl (fl_bo rfl) rfl ?_
        refine fl_Tq.cB (c := (34 : Int32)) rfl (by decide +kernel) (fl_bo rfl) ?_
        refine fl_Tq.stp (pc' := 77) (lv' := [some (.inr (.inr (.inl (76, 277)))), some (.inl (Int32.ofNat k)), some (.inl ((79 : Int32) + ((5 : Int32) * (Int32.ofNat k)))), some (.inl (r_is_v f (f 280 (79 + (5 * k)))))]) (st' := [.inr (.inr (.inl (76, 277))), .inl (34 : Int32), .inr (.inr (.inl (79, 280)))]) (m' := (f, l)) rfl rfl (fl_bo rfl) rfl ?_
        refine fl_Tq.stp (pc' := 80) (lv' := [some (.inr (.inr (.inl (76, 277)))), some (.inl (Int32.ofNat k)), some (.inl ((79 : Int32) + ((5 : Int32) * (Int32.ofNat k)))), some (.inl (r_is_v f (f 280 (79 + (5 * k)))))]) (st' := [.inr (.inr (.inl (79, 280))), .inl (34 : Int32), .inr (.inr (.inl (79, 280)))]) (m' := (f, l)) rfl rfl (fl_bo rfl) rfl ?_
        refine fl_Tq.stp (pc' := 81) (lv' := [some (.inr (.inr (.inl (76, 277)))), some (.inl (Int32.ofNat k)), some (.inl ((79 : Int32) + ((5 : Int32) * (Int32.ofNat k)))), some (.inl (r_is_v f (f 280 (79 + (5 * k)))))]) (st' := [.inl ((79 : Int32) + ((5 : Int32) * (Int32.ofNat k))), .inr (.inr (.inl (79, 280))), .inl (34 : Int32), .inr (.inr (.inl (79, 280)))]) (m' := (f, l)) rfl rfl (fl_bo rfl) rfl ?_
        refine fl_Tq.cI (c := (3 : Int32)) rfl (by decide +kernel) (fl_bo rfl) ?_
        refine fl_Tq.stp (pc' := 83) (lv' := [some (.inr (.inr (.inl (76, 277)))), some (.inl (Int32.ofNat k)), some (.inl ((79 : Int32) + ((5 : Int32) * (Int32.ofNat k)))), some (.inl (r_is_v f (f 280 (79 + (5 * k)))))]) (st' := [.inl (((79 : Int32) + ((5 : Int32) * (Int32.ofNat k))) + (3 : Int32)), .inr (.inr (.inl (79, 280))), .inl (34 : Int32), .inr (.inr (.inl (79, 280)))]) (m' := (f, l)) rfl rfl (fl_bo rfl) rfl ?_
        refine fl_Tq.ldV (p := 280) (τ := 79) (n := 29780) (z := (0, 0, 0)) (k := (79 + (5 * k)) + 3) (v := f 280 ((79 + (5 * k)) + 3)) rfl (fl_bo rfl) rfl (t2_ia (t2_ia (by decide +kernel) (t2_im (by decide +kernel) (at_ofN (by omega)) (by omega)) (by omega)) (by decide +kernel) (by omega)) (by omega) rfl ?_
        refine fl_Tq.stp (pc' := 85) (lv' := [some (.inr (.inr (.inl (76, 277)))), some (.inl (Int32.ofNat k)), some (.inl ((79 : Int32) + ((5 : Int32) * (Int32.ofNat k)))), some (.inl (r_is_v f (f 280 (79 + (5 * k)))))]) (st' := [.inl ((34 : Int32) + (f 280 ((79 + (5 * k)) + 3))), .inr (.inr (.inl (79, 280)))]) (m' := (f, l)) rfl rfl (fl_bo rfl) rfl ?_
        refine fl_Tq.stp (pc' := 86) (lv' := [some (.inr (.inr (.inl (76, 277)))), some (.inl (Int32.ofNat k)), some (.inl ((79 : Int32) + ((5 : Int32) * (Int32.ofNat k)))), some (.inl (r_is_v f (f 280 (79 + (5 * k)))))]) (st' := [.inr (.inr (.inl (76, 277))), .inl ((34 : Int32) + (f 280 ((79 + (5 * k)) + 3))), .inr (.inr (.inl (79, 280)))]) (m' := (f, l)) rfl rfl (fl_bo rfl) rfl ?_
        refine fl_Tq.stp (pc' := 89) (lv' := [some (.inr (.inr (.inl (76, 277)))), some (.inl (Int32.ofNat k)), some (.inl ((79 : Int32) + ((5 : Int32) * (Int32.ofNat k)))), some (.inl (r_is_v f (f 280 (79 + (5 * k)))))]) (st' := [.inr (.inr (.inl (79, 280))), .inl ((34 : Int32) + (f 280 ((79 + (5 * k)) + 3))), .inr (.inr (.inl (79, 280)))]) (m' := (f, l)) rfl rfl (fl_bo rfl) rfl ?_
        refine fl_Tq.stp (pc' := 90) (lv' := [some (.inr (.inr (.inl (76, 277)))), some (.inl (Int32.ofNat k)), some (.inl ((79 : Int32) + ((5 : Int32) * (Int32.ofNat k)))), some (.inl (r_is_v f (f 280 (79 + (5 * k)))))]) (st' := [.inl ((79 : Int32) + ((5 : Int32) * (Int32.ofNat k))), .inr (.inr (.inl (79, 280))), .inl ((34 : Int32) + (f 280 ((79 + (5 * k)) + 3))), .inr (.inr (.inl (79, 280)))]) (m' := (f, l)) rfl rfl (fl_bo rfl) rfl ?_
        refine fl_Tq.cI (c := (4 : Int32)) rfl (by decide +kernel) (fl_bo rfl) ?_
        refine fl_Tq.stp (pc' := 92) (lv' := [some (.inr (.inr (.inl (76, 277)))), some (.inl (Int32.ofNat k)), some (.inl ((79 : Int32) + ((5 : Int32) * (Int32.ofNat k)))), some (.inl (r_is_v f (f 280 (79 + (5 * k)))))]) (st' := [.inl (((79 : Int32) + ((5 : Int32) * (Int32.ofNat k))) + (4 : Int32)), .inr (.inr (.inl (79, 280))), .inl ((34 : Int32) + (f 280 ((79 + (5 * k)) + 3))), .inr (.inr (.inl (79, 280)))]) (m' := (f, l)) rfl rfl (fl_bo rfl) rfl ?_
        refine fl_Tq.ldV (p := 280) (τ := 79) (n := 29780) (z := (0, 0, 0)) (k := (79 + (5 * k)) + 4) (v := f 280 ((79 + (5 * k)) + 4)) rfl (fl_bo rfl) rfl (t2_ia (t2_ia (by decide +kernel) (t2_im (by decide +kernel) (at_ofN (by omega)) (by omega)) (by omega)) (by decide +kernel) (by omega)) (by omega) rfl ?_
        refine fl_Tq.svV (p := 280) (τ := 79) (n := 29780) (z := (0, 0, 0)) (k := 34 + ((f 280 ((79 + (5 * k)) + 3)).toInt.toNat)) (m' := (fl_row f 280 (upd (f 280) (34 + ((f 280 ((79 + (5 * k)) + 3)).toInt.toNat)) (f 280 ((79 + (5 * k)) + 4))), l)) rfl (fl_bo rfl) rfl (t2_ia (by decide +kernel) (t2_nn hru.1) (by omega)) (by omega) (t2_upn rfl) ?_
        have e0 : (fl_row f 280 (upd (f 280) (34 + ((f 280 ((79 + (5 * k)) + 3)).toInt.toNat)) (r_goRules_b2_j40_0 f k))) = fl_row f 280 (upd (f 280) (34 + ((f 280 ((79 + (5 * k)) + 3)).toInt.toNat)) (f 280 ((79 + (5 * k)) + 4))) := by
          simp only [r_goRules_b2_j40_0, if_neg h1, if_pos h3]
        rw [e0] at hJ
        exact hJ
      · refine fl_Tq.jt rfl (fl_bo rfl) (c2_ge_t h3) rfl ?_
        have e0 : (fl_row f 280 (upd (f 280) (34 + ((f 280 ((79 + (5 * k)) + 3)).toInt.toNat)) (r_goRules_b2_j40_0 f k))) = f := by
          simp only [r_goRules_b2_j40_0, if_neg h1, if_neg h3]
          funext q j
          simp only [fl_row, upd]
          repeat' split
          all_goals first | rfl | simp_all
        rw [e0] at hJ
        exact hJ
  refine hj145 ?_
  show fl_Tq _ 236 94 [some (.inr (.inr (.inl (76, 277)))), some (.inl (Int32.ofNat k)), some (.inl ((79 : Int32) + ((5 : Int32) * (Int32.ofNat k)))), some (.inl (r_is_v f (f 280 (79 + (5 * k)))))] [] (fl_row f 280 (upd (f 280) (34 + ((f 280 ((79 + (5 * k)) + 3)).toInt.toNat)) (r_goRules_b2_j40_0 f k)), l) _
  refine fl_Tq.stp (pc' := 97) (lv' := [some (.inr (.inr (.inl (76, 277)))), some (.inl ((Int32.ofNat k) + (1 : Int32))), some (.inl ((79 : Int32) + ((5 : Int32) * (Int32.ofNat k)))), some (.inl (r_is_v f (f 280 (79 + (5 * k)))))]) (st' := []) (m' := (fl_row f 280 (upd (f 280) (34 + ((f 280 ((79 + (5 * k)) + 3)).toInt.toNat)) (r_goRules_b2_j40_0 f k)), l)) rfl rfl (fl_bo rfl) rfl ?_
  refine fl_Tq.stp (pc' := 2) (lv' := [some (.inr (.inr (.inl (76, 277)))), some (.inl ((Int32.ofNat k) + (1 : Int32))), some (.inl ((79 : Int32) + ((5 : Int32) * (Int32.ofNat k)))), some (.inl (r_is_v f (f 280 (79 + (5 * k)))))]) (st' := []) (m' := (fl_row f 280 (upd (f 280) (34 + ((f 280 ((79 + (5 * k)) + 3)).toInt.toNat)) (r_goRules_b2_j40_0 f k)), l)) rfl rfl (fl_bo rfl) rfl ?_
  have em : r_goRules_b2_m f k = fl_row f 280 (upd (f 280) (34 + ((f 280 ((79 + (5 * k)) + 3)).toInt.toNat)) (r_goRules_b2_j40_0 f k)) := rfl
  rw [em, ← t2_k1] at hS
  exact fl_Tq.fg hS ⟨rfl, rfl, True.intro⟩
noncomputable def r_goRules_f2 (f : t2_F)  : Nat → t2_F
  | 0 => f
  | k + 1 => r_goRules_b2_m (r_goRules_f2 f k) k
theorem r_goRules_f2_fr {f : t2_F}  {p : Nat} : ∀ {k : Nat}  (e280 : p ≠ 280), r_goRules_f2 f k p = f p := by
  intro k
  induction k with
  | zero => intros; rfl
  | succ k ih =>
    intro  e280
    exact (r_goRules_b2_fr  e280).trans (ih  e280)
theorem r_goRules_f2_w {f : t2_F} (hrn : 0 ≤ (f 280 18).toInt ∧ (f 280 18).toInt ≤ 8) (hru : ∀ k : Nat, k < 8 → 0 ≤ (f 280 ((79 + (5 * k)) + 3)).toInt ∧ (f 280 ((79 + (5 * k)) + 3)).toInt ≤ 29) : ∀ {k : Nat} (hkb : k ≤ 8) {w : Nat} (hw : w < 34 ∨ 64 ≤ w), r_goRules_f2 f k 280 w = f 280 w := by
  intro k
  induction k with
  | zero => intros; rfl
  | succ k ih =>
    intro hkb w hw
    have ih := @ih (by omega)
    refine (r_goRules_b2_w ?_ hw).trans (ih hw)
    rw [ih (by omega)]
    exact hru k (by omega)
noncomputable def r_goRules_m (f : t2_F) : t2_F := r_goRules_f2 f ((f 280 18).toInt.toNat)
theorem r_goRules_q {L : Nat} {xs : Nat → Int32} {f : t2_F} {l : t2_L} {Q : Option fl_V → fl_M → Prop}  (hn : 0 ≤ (f 280 2).toInt ∧ (f 280 2).toInt ≤ 16) (hr : t2_RS f) (hk : ∀ C : Nat, (C : Int) < (f 280 2).toInt → t2_ck f C) (hrn : 0 ≤ (f 280 18).toInt ∧ (f 280 18).toInt ≤ 8) (hru : ∀ k : Nat, k < 8 → 0 ≤ (f 280 ((79 + (5 * k)) + 3)).toInt ∧ (f 280 ((79 + (5 * k)) + 3)).toInt ≤ 29) (k : Q none (r_goRules_m f, l)) : fl_Tq (pw_P L xs) 236 0 (fl_args (am_mxl (pw_P L xs) 236) [.inr (.inr (.inl (76, 277)))]) [] (f, l) Q := by
  refine fl_Tq.cI (c := (0 : Int32)) rfl (by decide +kernel) (fl_bo rfl) ?_
  refine fl_Tq.stp (pc' := 2) (lv' := [some (.inr (.inr (.inl (76, 277)))), some (.inl (0 : Int32)), none, none]) (st' := []) (m' := (f, l)) rfl rfl (fl_bo rfl) rfl ?_
  have hs2 : ∀ k : Nat, k < (f 280 18).toInt.toNat → fl_Tq (pw_P L xs) 236 2 [some (.inr (.inr (.inl (76, 277)))), some (.inl (Int32.ofNat (k + 1))), none, none] [] (r_goRules_f2 f (k + 1), l) Q → fl_Tq (pw_P L xs) 236 2 [some (.inr (.inr (.inl (76, 277)))), some (.inl (Int32.ofNat k)), none, none] [] (r_goRules_f2 f k, l) Q := fun k hkn hS => r_goRules_b2_q hkn (by rw [r_goRules_f2_w hrn hru (k := k) (by omega) (w := 18) (by omega)]; exact t2_nn hrn.1) (by omega) (by rw [r_goRules_f2_w hrn hru (k := k) (by omega) (w := 2) (by omega)]; exact hn) (fun j => by rw [r_goRules_f2_fr (by decide)]; exact hr j) (fun C hC => by rw [r_goRules_f2_w hrn hru (k := k) (by omega) (w := 2) (by omega)] at hC; unfold t2_ck; rw [r_goRules_f2_w hrn hru (k := k) (by omega) (w := 444 + 61 * C + 0) (by omega), r_goRules_f2_w hrn hru (k := k) (by omega) (w := 444 + 61 * C + 1) (by omega)]; exact hk C hC) (by rw [r_goRules_f2_w hrn hru (k := k) (by omega) (w := (79 + (5 * k)) + 3) (by omega)]; exact hru k (by omega)) hS
  refine t2_for (S := fun k => fl_Tq (pw_P L xs) 236 2 [some (.inr (.inr (.inl (76, 277)))), some (.inl (Int32.ofNat k)), none, none] [] (r_goRules_f2 f k, l) Q) hs2 ?_
  show fl_Tq (pw_P L xs) 236 2 [some (.inr (.inr (.inl (76, 277)))), some (.inl (Int32.ofNat ((f 280 18).toInt.toNat))), none, none] [] (r_goRules_f2 f ((f 280 18).toInt.toNat), l) _
  refine fl_Tq.stp (pc' := 3) (lv' := [some (.inr (.inr (.inl (76, 277)))), some (.inl (Int32.ofNat ((f 280 18).toInt.toNat))), none, none]) (st' := [.inl (Int32.ofNat ((f 280 18).toInt.toNat))]) (m' := (r_goRules_f2 f ((f 280 18).toInt.toNat), l)) rfl rfl (fl_bo rfl) rfl ?_
  refine fl_Tq.stp (pc' := 4) (lv' := [some (.inr (.inr (.inl (76, 277)))), some (.inl (Int32.ofNat ((f 280 18).toInt.toNat))), none, none]) (st' := [.inr (.inr (.inl (76, 277))), .inl (Int32.ofNat ((f 280 18).toInt.toNat))]) (m' := (r_goRules_f2 f ((f 280 18).toInt.toNat), l)) rfl rfl (fl_bo rfl) rfl ?_
  refine fl_Tq.stp (pc' := 7) (lv' := [some (.inr (.inr (.inl (76, 277)))), some (.inl (Int32.ofNat ((f 280 18).toInt.toNat))), none, none]) (st' := [.inr (.inr (.inl (79, 280))), .inl (Int32.ofNat ((f 280 18).toInt.toNat))]) (m' := (r_goRules_f2 f ((f 280 18).toInt.toNat), l)) rfl rfl (fl_bo rfl) rfl ?_
  refine fl_Tq.cB (c := (18 : Int32)) rfl (by decide +kernel) (fl_bo rfl) ?_
  refine fl_Tq.ldV (p := 280) (τ := 79) (n := 29780) (z := (0, 0, 0)) (k := 18) (v := f 280 18) rfl (fl_bo rfl) rfl (by decide +kernel) (by decide) (by simp only [r_goRules_f2_w hrn hru (f := f) (k := (f 280 18).toInt.toNat) (w := 18) (by omega) (by omega)]) ?_
  refine fl_Tq.jt rfl (fl_bo rfl) (c2_ge_t (t2_ln (t2_nn hrn.1))) rfl ?_
  exact fl_Tq.ret rfl rfl rfl k
theorem r_goRules_w {f : t2_F} (hrn : 0 ≤ (f 280 18).toInt ∧ (f 280 18).toInt ≤ 8) (hru : ∀ k : Nat, k < 8 → 0 ≤ (f 280 ((79 + (5 * k)) + 3)).toInt ∧ (f 280 ((79 + (5 * k)) + 3)).toInt ≤ 29) {w : Nat} (hw : w < 34 ∨ 64 ≤ w) : r_goRules_m f 280 w = f 280 w := r_goRules_f2_w hrn hru (by omega) hw
theorem r_goRules_fr {f : t2_F} {p : Nat} (e280 : p ≠ 280) : r_goRules_m f p = f p := r_goRules_f2_fr e280


end
