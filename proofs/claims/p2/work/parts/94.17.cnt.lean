/-! ===== block 0: turns: rounds alike ===== -/
section C0CNT
variable {fc fr f g F G : t2_F} {C n k : Nat} {c x y z : Int32}
/-- a cell's turns -/
def c0_TI (fc fr : t2_F) (C : Nat) : Prop := fc (19 + 4 * C) 2 = fr 280 (444 + 61 * C + 10) ∧ (∀ i : Nat, (i : Int) < (fr 280 (444 + 61 * C + 10)).toInt → fc (20 + 4 * C) i = fr 280 (444 + 61 * C + (17 + i))) ∧ (∀ k : Nat, k < 11 → fc (21 + 4 * C) k = fr 280 (444 + 61 * C + (49 + k))) ∧ r_alt fr C
theorem c0_way_e {j : Nat} (hx : x.toInt = (j : Int)) : c0_way_v f C x = t2_abs_v (f (20 + 4 * C) (j + 1) - f (20 + 4 * C) j) := by
  unfold c0_way_v c0_way_j17_0
  rw [hx, Int.toNat_natCast]
  rfl
theorem c0_round (h : c0_TI fc fr C) : (c0_cc_g0 fc C = none ∧ r_count_g2 fr c C = none) ∨ ∃ fc' fr' : t2_F, c0_cc_g0 fc C = some fc' ∧ r_count_g2 fr c C = some fr' ∧ c0_TI fc' fr' C := by
  obtain ⟨e2, et, ec, ha⟩ := h
  obtain ⟨h1, h2, h3, h5⟩ := id ha
  have c4 : (4 : Int32).toInt = 4 := by decide +kernel
  have c3 : (3 : Int32).toInt = 3 := by decide +kernel
  have c2 : (2 : Int32).toInt = 2 := by decide +kernel
  have c1 : (1 : Int32).toInt = 1 := by decide +kernel
  have c10 : (10 : Int32).toInt = 10 := by decide +kernel
  generalize hnn : (fr 280 (444 + 61 * C + 10)).toInt.toNat = n
  have en : (fr 280 (444 + 61 * C + 10)).toInt = (n : Int) := by omega
  unfold c0_cc_g0
  rw [e2, hnn]
  by_cases q4 : (fr 280 (444 + 61 * C + 10)).toInt < (4 : Int32).toInt
  · left
    unfold r_count_g2
    rw [if_pos q4, if_pos q4]
    exact ⟨rfl, rfl⟩
  · have n4 : 4 ≤ n := by omega
    have va := h2 (n - 4) (by omega)
    have vb := h2 (n - 3) (by omega)
    have vc := h2 (n - 2) (by omega)
    have vd := h2 (n - 1) (by omega)
    have w4 : c0_way_v fc C (fr 280 (444 + 61 * C + 10) - (4 : Int32)) = t2_abs_v (fr 280 (444 + 61 * C + (17 + (n - 3))) - fr 280 (444 + 61 * C + (17 + (n - 4)))) := by
      rw [c0_way_e (j := n - 4) (by rw [at_sub32] <;> omega), show n - 4 + 1 = n - 3 by omega, et (n - 3) (by omega), et (n - 4) (by omega)]
    have w3 : c0_way_v fc C (fr 280 (444 + 61 * C + 10) - (3 : Int32)) = t2_abs_v (fr 280 (444 + 61 * C + (17 + (n - 2))) - fr 280 (444 + 61 * C + (17 + (n - 3)))) := by
      rw [c0_way_e (j := n - 3) (by rw [at_sub32] <;> omega), show n - 3 + 1 = n - 2 by omega, et (n - 2) (by omega), et (n - 3) (by omega)]
    have w2 : c0_way_v fc C (fr 280 (444 + 61 * C + 10) - (2 : Int32)) = t2_abs_v (fr 280 (444 + 61 * C + (17 + (n - 1))) - fr 280 (444 + 61 * C + (17 + (n - 2)))) := by
      rw [c0_way_e (j := n - 2) (by rw [at_sub32] <;> omega), show n - 2 + 1 = n - 1 by omega, et (n - 1) (by omega), et (n - 2) (by omega)]
    have r4 := (t2_ab vb va).2
    have r3 := (t2_ab vc vb).2
    have r2 := (t2_ab vd vc).2
    have b3 := (t2_ab vc vb).1
    rw [w4, w3, w2, if_neg q4]
    have hr2 : r_count_g2 fr c C = (if (t2_abs_v (fr 280 (444 + 61 * C + (17 + (n - 3))) - fr 280 (444 + 61 * C + (17 + (n - 4))))).toInt < (t2_abs_v (fr 280 (444 + 61 * C + (17 + (n - 2))) - fr 280 (444 + 61 * C + (17 + (n - 3))))).toInt then none else (if (t2_abs_v (fr 280 (444 + 61 * C + (17 + (n - 1))) - fr 280 (444 + 61 * C + (17 + (n - 2))))).toInt < (t2_abs_v (fr 280 (444 + 61 * C + (17 + (n - 2))) - fr 280 (444 + 61 * C + (17 + (n - 3))))).toInt then none else some (r_dropTurnN_m (r_dropTurnN_m (fl_row fr 280 (upd (fr 280) (444 + 61 * C + (49 + ((t2_abs_v (fr 280 (444 + 61 * C + (17 + (n - 2))) - fr 280 (444 + 61 * C + (17 + (n - 3))))) / (100 : Int32)).toInt.toNat)) ((fr 280 (444 + 61 * C + (49 + ((t2_abs_v (fr 280 (444 + 61 * C + (17 + (n - 2))) - fr 280 (444 + 61 * C + (17 + (n - 3))))) / (100 : Int32)).toInt.toNat))) + (1 : Int32)))) c C (n - 3)) c C (n - 3)))) := by
      unfold r_count_g2
      rw [if_neg q4, hnn, r4, r3, r2]
    rw [hr2]
    generalize hM : t2_abs_v (fr 280 (444 + 61 * C + (17 + (n - 2))) - fr 280 (444 + 61 * C + (17 + (n - 3)))) = M at *
    by_cases m1 : (t2_abs_v (fr 280 (444 + 61 * C + (17 + (n - 3))) - fr 280 (444 + 61 * C + (17 + (n - 4))))).toInt < M.toInt
    · left
      rw [if_pos m1, if_pos m1]
      exact ⟨rfl, rfl⟩
    · by_cases m2 : (t2_abs_v (fr 280 (444 + 61 * C + (17 + (n - 1))) - fr 280 (444 + 61 * C + (17 + (n - 2))))).toInt < M.toInt
      · left
        rw [if_neg m1, if_pos m2, if_neg m1, if_pos m2]
        exact ⟨rfl, rfl⟩
      · right
        rw [if_neg m1, if_neg m2, if_neg m1, if_neg m2]
        refine ⟨_, _, rfl, rfl, ?_⟩
        have hM0 : 0 ≤ M.toInt ∧ M.toInt ≤ 1000 := by
          rw [b3]
          split <;> omega
        have c100 : (100 : Int32).toInt = 100 := by decide +kernel
        have hq : (M / (100 : Int32)).toInt = M.toInt / 100 := by rw [at_div32 hM0.1 (by omega), c100]
        have hmin : (t2_min_v (M / (100 : Int32)) (10 : Int32)) = M / (100 : Int32) := Int32.toInt.inj (by rw [t2_min_i]; omega)
        rw [hmin]
        generalize hQ : (M / (100 : Int32)).toInt.toNat = q
        have q11 : q < 11 := by omega
        obtain ⟨r10, rt, ro⟩ := r_round_w (c := c) (C := C) (n := n) (q := q) (v := fr 280 (444 + 61 * C + (49 + q)) + (1 : Int32)) en n4 (by omega) (by omega) rfl rfl
        have hv : r_tv (r_dropTurnN_m (r_dropTurnN_m (fl_row fr 280 (upd (fr 280) (444 + 61 * C + (49 + q)) (fr 280 (444 + 61 * C + (49 + q)) + (1 : Int32)))) c C (n - 3)) c C (n - 3)) C := by
          have gtv : r_tv (fl_row fr 280 (upd (fr 280) (444 + 61 * C + (49 + q)) (fr 280 (444 + 61 * C + (49 + q)) + (1 : Int32)))) C := fun k hk => by
            rw [fl_row_self, upd_ne (by omega)]
            exact h2 k hk
          have g10 : (fl_row fr 280 (upd (fr 280) (444 + 61 * C + (49 + q)) (fr 280 (444 + 61 * C + (49 + q)) + (1 : Int32)))) 280 (444 + 61 * C + 10) = fr 280 (444 + 61 * C + 10) := by rw [fl_row_self, upd_ne (by omega)]
          have t1 := r_dropTurnN_t (f := fl_row fr 280 (upd (fr 280) (444 + 61 * C + (49 + q)) (fr 280 (444 + 61 * C + (49 + q)) + (1 : Int32)))) (c := c) (C := C) (X := n - 3)
          have i1 : (r_dropTurnN_m (fl_row fr 280 (upd (fr 280) (444 + 61 * C + (49 + q)) (fr 280 (444 + 61 * C + (49 + q)) + (1 : Int32)))) c C (n - 3) 280 (444 + 61 * C + 10)).toInt = (n : Int) - 1 := by rw [t1, g10, at_sub32] <;> omega
          exact r_dropTurnN_tv (by omega) (by omega) (r_dropTurnN_tv (by rw [g10]; exact h1) (by omega) gtv)
        have alt' := r_round_alt ha en n4 r10 rt hv (by rw [hM]; exact m1) (by rw [hM]; exact m2)
        have e10' : ((fr 280 (444 + 61 * C + 10)) - (1 : Int32) - (1 : Int32)).toInt = (n : Int) - 2 := by
          rw [at_sub32] <;> rw [at_sub32] <;> omega
        refine ⟨?_, fun i hi => ?_, fun k hk => ?_, alt'⟩
        · rw [fl_row_self, upd_self, r10]
          apply Int32.toInt.inj
          rw [e10', at_sub32] <;> omega
        · rw [r10, e10'] at hi
          rw [fl_row_ne (by omega), fl_row_self, rt i (by omega)]
          by_cases e : i = n - 3
          · rw [if_pos e, e, upd_self]
            exact et (n - 1) (by omega)
          · rw [if_neg e, upd_ne e]
            exact et i (by omega)
        · rw [fl_row_ne (by omega), fl_row_ne (by omega), fl_row_self, ro _ (by omega), fl_row_self]
          by_cases e : k = q
          · rw [e, upd_self, upd_self, ec q q11]
          · rw [upd_ne e, upd_ne (by omega)]
            exact ec k hk
theorem c0_count_eq : ∀ (m : Nat) (fc fr : t2_F), c0_TI fc fr C → c0_TI (t2_wf (fun f => c0_cc_g0 f C) m fc) (t2_wf (fun f => r_count_g2 f c C) m fr) C := by
  intro m
  induction m with
  | zero => intro fc fr h; exact h
  | succ m ih =>
    intro fc fr h
    unfold t2_wf
    rcases c0_round (c := c) h with ⟨a, b⟩ | ⟨fc', fr', a, b, h'⟩
    · rw [a, b]
      exact h
    · rw [a, b]
      exact ih fc' fr' h'
end C0CNT
