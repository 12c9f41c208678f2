/-! ===== what the reference's second keeps in bounds ===== -/
section OKS
variable {f F G : t2_F} {g g' : Nat → Int32} {C n : Nat} {c x : Int32}
theorem t2_OK.upd (h : t2_OK g) (e : ∀ w : Nat, (w = 2 ∨ (17 ≤ w ∧ w < 20) ∨ (64 ≤ w ∧ w < 167)) → g' w = g w) (hs : ∀ k : Nat, k < 30 → t2_lo k ≤ (g' (34 + k)).toInt ∧ (g' (34 + k)).toInt ≤ t2_hi k) (h5 : -99999 ≤ (g' 5).toInt ∧ (g' 5).toInt ≤ 99999) (h4 : -1000000 ≤ (g' 4).toInt ∧ (g' 4).toInt ≤ 1000000) (h7 : 0 ≤ (g' 7).toInt ∧ (g' 7).toInt ≤ 9999) (hw : (0 ≤ (g' 16).toInt ∧ (g' 16).toInt ≤ 2) ∧ (0 ≤ (g' 20).toInt ∧ (g' 20).toInt ≤ 24) ∧ (0 ≤ (g' 21).toInt ∧ (g' 21).toInt ≤ 32)) (hc : ∀ C : Nat, (C : Int) < (g 2).toInt → t2_OC g' C) : t2_OK g' := by
  obtain ⟨-, ⟨-, -, a2, -⟩, b, ⟨d1, d2⟩, ⟨e1, e2, e3⟩, ⟨i1, i2⟩, -, -⟩ := h
  refine ⟨hs, ⟨h5, h4, by rw [e 2 (by omega)]; exact a2, h7⟩, fun k hk => by rw [e _ (by omega)]; exact b k hk, ⟨by rw [e 17 (by omega)]; exact d1, fun k hk => by rw [e _ (by omega)]; exact d2 k hk⟩, ⟨by rw [e 18 (by omega)]; exact e1, fun k hk => by rw [e _ (by omega)]; exact e2 k hk, fun k hk => ?_⟩, ⟨by rw [e 19 (by omega)]; exact i1, fun k hk => ?_⟩, hw, fun C hC => hc C (by rw [e 2 (by omega)] at hC; exact hC)⟩
  · rw [e 18 (by omega)] at hk
    rw [e _ (by omega), e _ (by omega)]
    exact e3 k hk
  · rw [e 19 (by omega)] at hk
    rw [e _ (by omega), e _ (by omega)]
    exact i2 k hk
theorem t2_OC.congr (h : t2_OC g C) (e : ∀ w : Nat, (w < 3 ∨ w = 4 ∨ w = 5 ∨ w = 9 ∨ w = 10 ∨ (15 ≤ w ∧ w < 49)) → g' (444 + 61 * C + w) = g (444 + 61 * C + w)) (h7 : (g 7).toInt ≤ (g' 7).toInt) : t2_OC g' C := by
  obtain ⟨a, b, d, i, j, k, l, m⟩ := h
  refine ⟨?_, ?_, ?_, ?_, ?_, ?_, ?_, m.congr (fun w hw => e w (by omega))⟩
  · rw [e 0 (by omega), e 1 (by omega)]
    exact a
  · rw [e 2 (by omega)]
    exact b
  · rw [e 0 (by omega), e 4 (by omega)]
    exact d
  · rw [e 5 (by omega)]
    omega
  · rw [e 9 (by omega)]
    exact j
  · rw [e 15 (by omega)]
    exact k
  · rw [e 16 (by omega)]
    exact l
/-- reckoned within the cell -/
def r_P4 (f : t2_F) (C : Nat) : Prop := t2_cap (f 280 (444 + 61 * C + 0)) ∧ 0 ≤ (f 280 (444 + 61 * C + 4)).toInt ∧ (f 280 (444 + 61 * C + 4)).toInt ≤ 3600 * (f 280 (444 + 61 * C + 0)).toInt
theorem r_P4_c (h : r_P4 f C) (e0 : G 280 (444 + 61 * C + 0) = f 280 (444 + 61 * C + 0)) (e4 : G 280 (444 + 61 * C + 4) = f 280 (444 + 61 * C + 4)) : r_P4 G C := by
  unfold r_P4
  rw [e0, e4]
  exact h
theorem r_P4_held {v : Int32} (h : t2_cap (f 280 (444 + 61 * C + 0))) (e0 : G 280 (444 + 61 * C + 0) = f 280 (444 + 61 * C + 0)) (e4 : G 280 (444 + 61 * C + 4) = r_held_v v (0 : Int32) ((3600 : Int32) * f 280 (444 + 61 * C + 0))) : r_P4 G C := by
  have hf := t2_full_r h
  have c0 : (0 : Int32).toInt = 0 := rfl
  have b : (0 : Int32).toInt ≤ (r_held_v v (0 : Int32) ((3600 : Int32) * f 280 (444 + 61 * C + 0))).toInt ∧ (r_held_v v (0 : Int32) ((3600 : Int32) * f 280 (444 + 61 * C + 0))).toInt ≤ ((3600 : Int32) * f 280 (444 + 61 * C + 0)).toInt := t2_heldTo_b (v := v) (lo := (0 : Int32)) (hi := (3600 : Int32) * f 280 (444 + 61 * C + 0)) (by have := h.1; omega)
  unfold r_P4
  rw [e0, e4]
  exact ⟨h, by omega, by omega⟩
theorem r_sh_P4 {cA cB : Int32} {A B : Nat} (hAB : A ≠ B) (h : r_P4 f C) : r_P4 (r_sh f cA cB A B) C := by
  obtain ⟨⟨-, wA⟩, ⟨-, wB⟩, o, -, -⟩ := r_sh_w (f := f) (cA := cA) (cB := cB) hAB rfl rfl
  have o0 : r_sh f cA cB A B 280 (444 + 61 * C + 0) = f 280 (444 + 61 * C + 0) := o _ (by omega) (by omega) (by omega) (by omega) (by omega) (by omega)
  by_cases eA : C = A
  · subst eA
    exact r_P4_held h.1 o0 wA
  · by_cases eB : C = B
    · subst eB
      exact r_P4_held h.1 o0 wB
    · exact r_P4_c h o0 (o _ (by omega) (by omega) (by omega) (by omega) (by omega) (by omega))
theorem r_shuttle_P4 {A : Nat} (h : r_P4 f C) : r_P4 (r_shuttle_m f c A) C := by
  have e := r_shuttle_sh (f := f) (c := c) (C := A)
  by_cases h1 : (f 280 48).toInt < (r_size_v ((r_partOf_v f c A) - (r_partOf_v f (c + (1 : Int32)) (A + 1)))).toInt
  · rw [if_pos h1] at e
    by_cases h2 : 0 < ((r_partOf_v f c A) - (r_partOf_v f (c + (1 : Int32)) (A + 1))).toInt
    · rw [if_pos h2] at e
      exact r_P4_c (r_sh_P4 (cA := c) (cB := c + (1 : Int32)) (A := A) (B := A + 1) (by omega) h) (by rw [e]) (by rw [e])
    · rw [if_neg h2] at e
      exact r_P4_c (r_sh_P4 (cA := c + (1 : Int32)) (cB := c) (A := A + 1) (B := A) (by omega) h) (by rw [e]) (by rw [e])
  · rw [if_neg h1] at e
    exact r_P4_c h (by rw [e]) (by rw [e])
theorem r_b81_P4 {a a0 : Int32} {X k : Nat} (h : r_P4 f C) : r_P4 (r_shuntAll_b81_m f a X a0 k) C := by
  unfold r_shuntAll_b81_m
  generalize a0.toInt.toNat = A
  generalize hG : fl_row f 280 (upd (upd (f 280) (444 + 61 * A + 1) ((f 280 (444 + 61 * A + 1)) - (r_lesser_v (f 280 46) (f 280 (444 + 61 * A + 1))))) (444 + 61 * A + 4) ((f 280 (444 + 61 * A + 4)) - (f 280 46))) = H
  have q0 : H 280 (444 + 61 * C + 0) = f 280 (444 + 61 * C + 0) := by rw [← hG, fl_row_self, upd_ne (by omega), upd_ne (by omega)]
  have key : r_P4 (r_hold_m H a0 A) C := by
    by_cases e : C = A
    · subst e
      exact r_P4_held (f := H) (by rw [q0]; exact h.1) (r_hld_o (by omega) (by omega)) r_hld_4
    · refine r_P4_c h (by rw [r_hld_o (by omega) (by omega), q0]) ?_
      rw [r_hld_o (by omega) (by omega), ← hG, fl_row_self, upd_ne (by omega), upd_ne (by omega)]
  refine r_P4_c key ?_ ?_
  · rw [fl_row_ne (by decide : (280 : Nat) ≠ 277), fl_row_self, upd_ne (by omega), upd_ne (by omega), upd_ne (by omega)]
  · rw [fl_row_ne (by decide : (280 : Nat) ≠ 277), fl_row_self, upd_ne (by omega), upd_ne (by omega), upd_ne (by omega)]
theorem r_shunt_P4 (h : r_P4 f C) : r_P4 (r_shuntAll_m f) C := by
  have key : ∀ k : Nat, r_P4 (r_shuntAll_f81 f k) C := by
    intro k
    induction k with
    | zero =>
      show r_P4 (r_shuntAll_f40 f _) C
      have e : r_shuntAll_f40 f ((f 280 2).toInt.toNat) 280 = f 280 := r_shuntAll_f40_fr (fun j hj => by decide)
      exact r_P4_c h (by rw [e]) (by rw [e])
    | succ k ih =>
      rw [r_shuntAll_fS]
      exact r_b81_P4 ih
  exact key _
theorem r_balance_P4 (h : r_P4 f C) : r_P4 (r_goBalance_m f) C := by
  have z : r_P4 (fl_row (fl_row f 280 (upd (f 280) 13 (0 : Int32))) 277 (upd (f 277) 6 (0 : Int32))) C := r_P4_c h (by rw [fl_row_ne (by decide : (280 : Nat) ≠ 277), fl_row_self, upd_ne (by omega)]) (by rw [fl_row_ne (by decide : (280 : Nat) ≠ 277), fl_row_self, upd_ne (by omega)])
  have key : ∀ k : Nat, r_P4 (r_goBalance_f57 f k) C := by
    intro k
    induction k with
    | zero =>
      show r_P4 (if (f 280 45).toInt = (1 : Int32).toInt then _ else _) C
      split
      · exact r_shunt_P4 z
      · exact z
    | succ k ih =>
      show r_P4 (r_shuttle_m (r_goBalance_f57 f k) _ _) C
      exact r_shuttle_P4 ih
  unfold r_goBalance_m
  split
  · split
    · exact key _
    · split
      · exact r_shunt_P4 z
      · exact z
  · exact z
/-- the bus stays near -/
theorem r_bus_b (hb : -1000000 ≤ (f 280 4).toInt ∧ (f 280 4).toInt ≤ 1000000) (hp : -160000 ≤ (r_packCalm_v f).toInt ∧ (r_packCalm_v f).toInt ≤ 235200) (hl : 0 ≤ (f 280 41).toInt ∧ (f 280 41).toInt ≤ 9999) : -1000000 ≤ (r_goBus_j16_0 f).toInt ∧ (r_goBus_j16_0 f).toInt ≤ 1000000 := by
  have c0 : (0 : Int32).toInt = 0 := rfl
  have c1 : (1 : Int32).toInt = 1 := by decide +kernel
  have c2 : (2 : Int32).toInt = 2 := by decide +kernel
  have c3 : (3 : Int32).toInt = 3 := by decide +kernel
  have c4 : (4 : Int32).toInt = 4 := by decide +kernel
  unfold r_goBus_j16_0
  split
  · split
    · have j41 : 0 ≤ (r_goBus_j41_0 f).toInt ∧ ((r_goBus_j41_0 f).toInt = 0 ∨ (f 280 4).toInt + (r_goBus_j41_0 f).toInt ≤ 300000) := by
        unfold r_goBus_j41_0
        split
        · have e1 : ((r_packCalm_v f) - (f 280 4)).toInt = (r_packCalm_v f).toInt - (f 280 4).toInt := at_sub32 (by omega) (by omega)
          have e2 : (((r_packCalm_v f) - (f 280 4)) + (3 : Int32)).toInt = (r_packCalm_v f).toInt - (f 280 4).toInt + 3 := by rw [at_add32 (by omega) (by omega), e1, c3]
          rw [at_div32 (by omega) (by omega), e2, c4]
          omega
        · exact ⟨by omega, Or.inl c0⟩
      have e1 : ((f 280 4) + (r_goBus_j41_0 f)).toInt = (f 280 4).toInt + (r_goBus_j41_0 f).toInt := at_add32 (by omega) (by omega)
      have e2 : (((f 280 4) + (r_goBus_j41_0 f)) - (f 280 41)).toInt = (f 280 4).toInt + (r_goBus_j41_0 f).toInt - (f 280 41).toInt := by rw [at_sub32 (by omega) (by omega), e1]
      unfold r_goBus_j78_0
      split
      · omega
      · omega
    · generalize f 280 4 = y at *
      unfold r_floor_v
      split
      · have e1 : (((2 : Int32) - (1 : Int32)) - y).toInt = 1 - y.toInt := by
          have q : ((2 : Int32) - (1 : Int32)).toInt = 1 := by decide +kernel
          rw [at_sub32 (by omega) (by omega), q]
        have e2 : ((((2 : Int32) - (1 : Int32)) - y) / (2 : Int32)).toInt = (1 - y.toInt) / 2 := by rw [at_div32 (by omega) (by omega), e1, c2]
        rw [Int32.toInt_neg, e2, Int.bmod_eq_of_le (by omega) (by omega)]
        omega
      · rw [at_div32 (by omega) (by omega), c2]
        omega
  · omega
/-- what ranges the settings have -/
theorem t2_OK.s (h : t2_OK g) {k : Nat} (hk : k < 30) : t2_lo k ≤ (g (34 + k)).toInt ∧ (g (34 + k)).toInt ≤ t2_hi k := h.1 k hk
/-- obeyed rules keep the settings within -/
theorem r_rules_b (h : t2_OK (f 280)) : ∀ k : Nat, k < 30 → t2_lo k ≤ (r_goRules_m f 280 (34 + k)).toInt ∧ (r_goRules_m f 280 (34 + k)).toInt ≤ t2_hi k := by
  obtain ⟨hs, -, -, -, ⟨e1, e2, e3⟩, -, -, -⟩ := h
  have key : ∀ j : Nat, j ≤ (f 280 18).toInt.toNat → ∀ k : Nat, k < 30 → t2_lo k ≤ (r_goRules_f2 f j 280 (34 + k)).toInt ∧ (r_goRules_f2 f j 280 (34 + k)).toInt ≤ t2_hi k := by
    intro j
    induction j with
    | zero => intro _ k hk; exact hs k hk
    | succ j ih =>
      intro hj k hk
      have i := ih (by omega)
      have W : ∀ w : Nat, (w < 34 ∨ 64 ≤ w) → r_goRules_f2 f j 280 w = f 280 w := fun w hw => r_goRules_f2_w e1 e2 (by omega) hw
      have r3 := e2 j (by omega)
      have r4 := e3 j (by omega)
      show t2_lo k ≤ (r_goRules_b2_m (r_goRules_f2 f j) j 280 (34 + k)).toInt ∧ (r_goRules_b2_m (r_goRules_f2 f j) j 280 (34 + k)).toInt ≤ t2_hi k
      unfold r_goRules_b2_m
      rw [fl_row_self, W _ (by omega)]
      by_cases e : k = (f 280 ((79 + (5 * j)) + 3)).toInt.toNat
      · rw [← e, upd_self]
        unfold r_goRules_b2_j40_0
        rw [W ((79 + (5 * j)) + 3) (by omega), W ((79 + (5 * j)) + 4) (by omega), ← e]
        rw [← e] at r4
        have q := i k hk
        split
        · split
          · exact r4
          · exact q
        · split
          · exact r4
          · exact q
      · rw [upd_ne (by omega)]
        exact i k hk
  unfold r_goRules_m
  exact key _ (Nat.le_refl _)
theorem t2_td {x y : Int32} (hy : 0 < y.toInt) : (x / y).toInt = if 0 ≤ x.toInt then x.toInt / y.toInt else -((-x.toInt) / y.toInt) := by
  have bx := at_i32 x
  rw [Int32.toInt_div]
  split
  · rename_i h
    rw [Int.tdiv_eq_ediv_of_nonneg h]
    have a1 : 0 ≤ x.toInt / y.toInt := Int.ediv_nonneg h (by omega)
    have a2 : x.toInt / y.toInt ≤ x.toInt := Int.ediv_le_self _ h
    exact Int.bmod_eq_of_le (by omega) (by omega)
  · rename_i h
    have e : x.toInt.tdiv y.toInt = -((-x.toInt).tdiv y.toInt) := by rw [Int.neg_tdiv, Int.neg_neg]
    have h' : 0 ≤ -x.toInt := by omega
    rw [e, Int.tdiv_eq_ediv_of_nonneg h']
    have a1 : 0 ≤ -x.toInt / y.toInt := Int.ediv_nonneg h' (by omega)
    have a2 : -x.toInt / y.toInt ≤ -x.toInt := Int.ediv_le_self _ h'
    exact Int.bmod_eq_of_le (by omega) (by omega)
theorem t2_polar_b {p s : Int32} (hp : -10000 ≤ p.toInt ∧ p.toInt ≤ 10000) (hx : -99999 ≤ x.toInt ∧ x.toInt ≤ 99999) (hs : 0 ≤ s.toInt ∧ s.toInt ≤ 99) : -10000 ≤ (p + (((x * s) / (1000 : Int32)) - p) / (8 : Int32)).toInt ∧ (p + (((x * s) / (1000 : Int32)) - p) / (8 : Int32)).toInt ≤ 10000 := by
  have c1000 : (1000 : Int32).toInt = 1000 := by decide +kernel
  have c8 : (8 : Int32).toInt = 8 := by decide +kernel
  have a1 : x.toInt * s.toInt ≤ 99999 * 99 := Int.le_trans (Int.mul_le_mul_of_nonneg_right hx.2 hs.1) (Int.mul_le_mul_of_nonneg_left hs.2 (by omega))
  have a2 : (-99999) * s.toInt ≤ x.toInt * s.toInt := Int.mul_le_mul_of_nonneg_right hx.1 hs.1
  have e : (x * s).toInt = x.toInt * s.toInt := at_mul32 (by omega) (by omega)
  have d := t2_td (x := x * s) (y := (1000 : Int32)) (by omega)
  generalize x * s = y at *
  rw [c1000] at d
  have yb : -9900 ≤ (y / (1000 : Int32)).toInt ∧ (y / (1000 : Int32)).toInt ≤ 9900 := by
    rw [d]
    split <;> omega
  generalize y / (1000 : Int32) = q at *
  have eq : (q - p).toInt = q.toInt - p.toInt := at_sub32 (by omega) (by omega)
  have d8 := t2_td (x := q - p) (y := (8 : Int32)) (by omega)
  rw [c8, eq] at d8
  generalize (q - p) / (8 : Int32) = r at *
  have rb : -20000 ≤ r.toInt ∧ r.toInt ≤ 20000 ∧ (0 ≤ q.toInt - p.toInt → 0 ≤ r.toInt ∧ r.toInt ≤ q.toInt - p.toInt) ∧ (q.toInt - p.toInt < 0 → q.toInt - p.toInt ≤ r.toInt ∧ r.toInt ≤ 0) := by
    rw [d8]
    split <;> omega
  rw [at_add32 (by omega) (by omega)]
  omega
theorem t2_abs_b {x : Int32} (hx : -99999 ≤ x.toInt ∧ x.toInt ≤ 99999) : 0 ≤ (t2_abs_v x).toInt ∧ (t2_abs_v x).toInt ≤ 99999 := by
  have n : (-x).toInt = -x.toInt := by rw [Int32.toInt_neg]; exact Int.bmod_eq_of_le (by omega) (by omega)
  unfold t2_abs_v
  split <;> omega
theorem r_old_held : (∃ v : Int32, r_goOld_m f c C 280 (444 + 61 * C + 1) = r_held_v v (0 : Int32) ((3600 : Int32) * r_goOld_m f c C 280 (444 + 61 * C + 0))) ∧ ∃ v : Int32, r_goOld_m f c C 280 (444 + 61 * C + 4) = r_held_v v (0 : Int32) ((3600 : Int32) * r_goOld_m f c C 280 (444 + 61 * C + 0)) := by
  unfold r_goOld_m
  generalize (fl_row (t2_wf (fun f' => r_goOld_g76 f' c C ((3600 : Int32) * (f 280 58))) 2147483647 _) 280 _ : t2_F) = H
  rw [r_hld_1, r_hld_4, r_hld_o (w := 444 + 61 * C + 0) (by omega) (by omega)]
  exact ⟨⟨_, rfl⟩, ⟨_, rfl⟩⟩
/-- (6): the bus, what is reckoned, the last place on the curve -/
theorem r_meas_mid {w : Nat} (h : w ≠ 4) : r_goMeasure_m f 280 w = r_mid f 280 w := by
  unfold r_goMeasure_m r_mid
  split
  · rw [fl_row_self, upd_ne h]
  · rw [fl_row_self, upd_ne h, fl_row_self]
theorem r_meas_4 : r_goMeasure_m f 280 4 = f 280 4 ∨ r_goMeasure_m f 280 4 = r_pack_v (r_mid f) := by
  have m4 : r_mid f 280 4 = f 280 4 := r_mid_lo (by decide) (by decide) (by decide)
  unfold r_goMeasure_m
  by_cases h : (r_goMeasure_j144_0 f).toInt = (f 280 53).toInt
  · have em : r_mid f = r_goMeasure_f163 f ((f 280 2).toInt.toNat) := by unfold r_mid; rw [if_pos h]
    rw [if_pos h, fl_row_self, upd_self]
    unfold r_goMeasure_j204_0
    rw [← em]
    split
    · exact Or.inl m4
    · exact Or.inr rfl
  · have em : r_mid f = fl_row (r_goMeasure_f17 f ((f 280 2).toInt.toNat)) 280 (upd (upd ((r_goMeasure_f17 f ((f 280 2).toInt.toNat)) 280) 14 (f 280 5)) 9 (r_goMeasure_j144_0 f)) := by unfold r_mid; rw [if_neg h]
    have m4' : (r_goMeasure_f17 f ((f 280 2).toInt.toNat)) 280 4 = f 280 4 := by
      rw [em, fl_row_self, upd_ne (by decide), upd_ne (by decide)] at m4
      exact m4
    rw [if_neg h, fl_row_self, upd_self]
    unfold r_goMeasure_j204_1
    rw [← em]
    split
    · exact Or.inl m4'
    · exact Or.inr rfl
theorem r_mid_cell (hC : C < (f 280 2).toInt.toNat) (cap : t2_cap (f 280 (444 + 61 * C + 0))) : (r_mid f 280 (444 + 61 * C + 4) = f 280 (444 + 61 * C + 4) ∨ (0 ≤ (r_mid f 280 (444 + 61 * C + 4)).toInt ∧ (r_mid f 280 (444 + 61 * C + 4)).toInt ≤ 3600 * (f 280 (444 + 61 * C + 0)).toInt)) ∧ (r_mid f 280 (444 + 61 * C + 16) = f 280 (444 + 61 * C + 16) ∨ (0 ≤ (r_mid f 280 (444 + 61 * C + 16)).toInt ∧ (r_mid f 280 (444 + 61 * C + 16)).toInt ≤ 1000)) := by
  by_cases h : (r_goMeasure_j144_0 f).toInt = (f 280 53).toInt
  · have em : r_mid f = r_goMeasure_f163 f ((f 280 2).toInt.toNat) := by unfold r_mid; rw [if_pos h]
    obtain ⟨r4, r12, r16, r13⟩ := r_rest_w (g := r_goMeasure_f163 f C) (c := Int32.ofNat C) (C := C)
    have z0 : r_goMeasure_f163 f C 280 (444 + 61 * C + 0) = f 280 (444 + 61 * C + 0) := by
      rw [r_f163_me (by decide), r_f17_o (by decide) (by decide) (by decide) (by decide) (by decide)]
    have pb := t2_pb_b (r_voltsOf_v (r_goMeasure_f163 f C) (Int32.ofNat C) C)
    obtain ⟨n1, n2, n3, n4⟩ := t2_chg pb cap
    refine ⟨Or.inr ?_, Or.inr ?_⟩
    · rw [em, r_f163_in (by decide) hC, r4]
      unfold r_chargeAt_v
      rw [z0, n4]
      exact ⟨n2, n3⟩
    · rw [em, r_f163_in (by decide) hC, r16]
      exact pb
  · have em : r_mid f = fl_row (r_goMeasure_f17 f ((f 280 2).toInt.toNat)) 280 (upd (upd ((r_goMeasure_f17 f ((f 280 2).toInt.toNat)) 280) 14 (f 280 5)) 9 (r_goMeasure_j144_0 f)) := by unfold r_mid; rw [if_neg h]
    refine ⟨Or.inl ?_, Or.inl ?_⟩
    · rw [em, fl_row_self, upd_ne (by omega), upd_ne (by omega), r_f17_o (by decide) (by decide) (by decide) (by decide) (by decide)]
    · rw [em, fl_row_self, upd_ne (by omega), upd_ne (by omega), r_f17_o (by decide) (by decide) (by decide) (by decide) (by decide)]
theorem r_taper_b (h : -99999 ≤ (f 280 54).toInt ∧ (f 280 54).toInt ≤ 99999) : -99999 ≤ (r_goTaper_m f 280 54).toInt ∧ (r_goTaper_m f 280 54).toInt ≤ 99999 := by
  have c0 : (0 : Int32).toInt = 0 := rfl
  have c9 : (9 : Int32).toInt = 9 := by decide +kernel
  have c10 : (10 : Int32).toInt = 10 := by decide +kernel
  unfold r_goTaper_m
  split
  · exact h
  · split
    · split
      · exact h
      · split
        · rename_i h0
          rw [fl_row_self, upd_self]
          unfold r_goTaper_j99_0
          have e : (f 280 54 * (9 : Int32)).toInt = 9 * (f 280 54).toInt := by rw [at_mul32] <;> rw [c9] <;> omega
          split
          · omega
          · rw [at_div32 (by omega) (by omega), e, c10]
            omega
        · exact h
    · exact h
/-- (7): the words behind the book -/
theorem r_wd_215 {w : Nat} (hb : 0 ≤ (f 280 20).toInt ∧ (f 280 20).toInt ≤ 24) (hw : w = 215 ∨ w = 216) : r_writeDown_m f x 280 w = f 280 w := by
  have c24 : (24 : Int32).toInt = 24 := by decide +kernel
  unfold r_writeDown_m
  split
  · rename_i h
    rw [fl_row_self, upd_ne (by omega), upd_ne (by omega), upd_ne (by omega), upd_ne (by omega), r_writeDown_f16_w (by decide) (by omega)]
  · rename_i h
    rw [fl_row_self, upd_ne (by omega), upd_ne (by omega), upd_ne (by omega)]
theorem r_b123_215 {z a0 : Int32} {k w : Nat} (hk : k < 11) (hb : 0 ≤ (f 280 20).toInt ∧ (f 280 20).toInt ≤ 24) (hw : w = 215 ∨ w = 216) : r_goFaults_b123_m f z a0 k 280 w = f 280 w := by
  unfold r_goFaults_b123_m
  split
  · rfl
  · split
    · split
      · rw [r_wd_215 (by rw [fl_row_self, upd_ne (by omega), upd_ne (by omega), upd_ne (by omega)]; exact hb) hw, fl_row_self, upd_ne (by omega), upd_ne (by omega), upd_ne (by omega)]
      · rw [fl_row_self, upd_ne (by omega), upd_ne (by omega)]
    · split
      · rw [r_wd_215 (by rw [fl_row_self, upd_ne (by omega), upd_ne (by omega)]; exact hb) hw, fl_row_self, upd_ne (by omega), upd_ne (by omega)]
      · rw [fl_row_self, upd_ne (by omega)]
theorem r_faults_215 {w : Nat} (hb : 0 ≤ (f 280 20).toInt ∧ (f 280 20).toInt ≤ 24) (hw : w = 215 ∨ w = 216) : r_goFaults_m f 280 w = f 280 w := by
  have key : ∀ k : Nat, k ≤ 11 → r_goFaults_f123 f k 280 w = f 280 w := by
    intro k
    induction k with
    | zero =>
      intro _
      unfold r_goFaults_f123 r_goFaults_l123
      simp only [fl_row_self, upd_ne (show w ≠ 15 by omega), upd_ne (show w ≠ 16 by omega), upd_ne (show w ≠ 22 by omega)]
    | succ k ih =>
      intro hk
      exact (r_b123_215 (a0 := (r_goFaults_l123 f k).2) (z := r_goFaults_a91 f 11) (by omega) (r_goFaults_ib hb k) hw).trans (ih (by omega))
  unfold r_goFaults_m
  rw [fl_row_self, upd_ne (by omega), key 11 (by decide)]
end OKS
