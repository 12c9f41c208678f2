/-! ===== what a rest tells: numbers ===== -/
theorem t2_chg {P c : Int32} (hP : 0 ≤ P.toInt ∧ P.toInt ≤ 1000) (hc : t2_cap c) : (t2_chargeBy_v P c).toInt = P.toInt * c.toInt * 36 / 10 ∧ 0 ≤ (t2_chargeBy_v P c).toInt ∧ (t2_chargeBy_v P c).toInt ≤ 3600 * c.toInt ∧ ((((36 : Int64) * P.toInt64) * c.toInt64) / (10 : Int64)).toInt32 = t2_chargeBy_v P c := by
  have c36 : (36 : Int32).toInt = 36 := by decide +kernel
  have c10 : (10 : Int32).toInt = 10 := by decide +kernel
  have d36 : (36 : Int64).toInt = 36 := by decide +kernel
  have d10 : (10 : Int64).toInt = 10 := by decide +kernel
  have hc1 := hc.1
  have hc2 := hc.2
  have hq : 0 ≤ P.toInt * c.toInt := Int.mul_nonneg hP.1 (by omega)
  have hq2 : P.toInt * c.toInt ≤ 1000 * c.toInt := Int.mul_le_mul_of_nonneg_right hP.2 (by omega)
  have e1 : (P * c).toInt = P.toInt * c.toInt := at_mul32 (by omega) (by omega)
  have e2 : (P * c * (36 : Int32)).toInt = P.toInt * c.toInt * 36 := by
    rw [at_mul32 (by rw [e1, c36]; omega) (by rw [e1, c36]; omega), e1, c36]
  have e3 : (t2_chargeBy_v P c).toInt = P.toInt * c.toInt * 36 / 10 := by
    unfold t2_chargeBy_v
    rw [at_div32 (by omega) (by omega), e2, c10]
  have f1 : ((36 : Int64) * P.toInt64).toInt = 36 * P.toInt := by
    rw [Int64.toInt_mul, t2_i64, d36]
    exact Int.bmod_eq_of_le (by omega) (by omega)
  have eq36 : 36 * P.toInt * c.toInt = P.toInt * c.toInt * 36 := by rw [Int.mul_assoc, Int.mul_comm]
  have f2 : (((36 : Int64) * P.toInt64) * c.toInt64).toInt = P.toInt * c.toInt * 36 := by
    rw [Int64.toInt_mul, t2_i64, f1, eq36]
    exact Int.bmod_eq_of_le (by omega) (by omega)
  have f3 : ((((36 : Int64) * P.toInt64) * c.toInt64) / (10 : Int64)).toInt = P.toInt * c.toInt * 36 / 10 := by
    rw [Int64.toInt_div, f2, d10, Int.tdiv_eq_ediv_of_nonneg (by omega)]
    exact Int.bmod_eq_of_le (by omega) (by omega)
  refine ⟨e3, by omega, by omega, Int32.toInt.inj ?_⟩
  rw [Int64.toInt_toInt32, f3, e3]
  exact Int.bmod_eq_of_le (by omega) (by omega)
theorem t2_gue {w y : Int32} (hw : 0 ≤ w.toInt ∧ w.toInt ≤ 1001) : ((1000 : Int64) * y.toInt64) / ((3600 : Int32) * w).toInt64 = (y.toInt64 * (1000 : Int64)) / (w.toInt64 * (3600 : Int64)) := by
  have c36 : (3600 : Int32).toInt = 3600 := by decide +kernel
  have d36 : (3600 : Int64).toInt = 3600 := by decide +kernel
  have e1 : (1000 : Int64) * y.toInt64 = y.toInt64 * (1000 : Int64) := Int64.mul_comm _ _
  have e2 : ((3600 : Int32) * w).toInt64 = w.toInt64 * (3600 : Int64) := by
    apply Int64.toInt.inj
    rw [t2_i64, at_mul32 (by rw [c36]; omega) (by rw [c36]; omega), c36, Int64.toInt_mul, t2_i64, d36]
    rw [Int.bmod_eq_of_le (by omega) (by omega)]
    omega
  rw [e1, e2]
theorem t2_abs_d {p q : Int32} (hp : 0 ≤ p.toInt ∧ p.toInt ≤ 1000) (hw : -1 ≤ q.toInt ∧ q.toInt ≤ 1000) : 0 ≤ (t2_abs_v (p - q)).toInt ∧ (t2_abs_v (p - q)).toInt ≤ 1001 := by
  have e : (p - q).toInt = p.toInt - q.toInt := at_sub32 (by omega) (by omega)
  have e2 : (-(p - q)).toInt = -(p.toInt - q.toInt) := by
    rw [Int32.toInt_neg, e]
    exact Int.bmod_eq_of_le (by omega) (by omega)
  unfold t2_abs_v
  split <;> omega
theorem t2_held_id {v y : Int32} (h0 : 0 ≤ v.toInt) (h1 : v.toInt ≤ y.toInt) : t2_heldTo_v v (0 : Int32) y = v := by
  have e0 : (0 : Int32).toInt = 0 := rfl
  unfold t2_heldTo_v
  rw [if_neg (by omega), if_neg (by omega)]
/-! the reference, a cell by its words, (6) -/
section R6
variable {g : t2_F} {k C : Nat} {z c : Int32}
theorem r_b17_w : r_goMeasure_b17_m g z k 280 (444 + 61 * k + 11) = r_goMeasure_b17_j41_0 g z k ∧ r_goMeasure_b17_m g z k 280 (444 + 61 * k + 14) = r_voltsOf_v g (Int32.ofNat k) k ∧ r_goMeasure_b17_m g z k 280 (444 + 61 * k + 15) = (1 : Int32) ∧ r_goMeasure_b17_m g z k 280 (444 + 61 * k + 13) = g 280 (444 + 61 * k + 13) + g 280 5 := by
  unfold r_goMeasure_b17_m
  refine ⟨?_, ?_, ?_, ?_⟩ <;> simp (disch := omega) only [fl_row_self, upd_self, upd_ne]
theorem r_rest_w : r_restNow_m g c C 280 (444 + 61 * C + 4) = r_chargeAt_v g c C (t2_pb (r_voltsOf_v g c C)) ∧ r_restNow_m g c C 280 (444 + 61 * C + 12) = r_restNow_j32_0 g c C ∧ r_restNow_m g c C 280 (444 + 61 * C + 16) = t2_pb (r_voltsOf_v g c C) ∧ r_restNow_m g c C 280 (444 + 61 * C + 13) = 0 := by
  unfold r_restNow_m
  refine ⟨?_, ?_, ?_, ?_⟩ <;> simp (disch := omega) only [fl_row_self, upd_self, upd_ne]
theorem r_volts_c {f f' : t2_F} (h5 : f' 280 5 = f 280 5) (h0 : f' 280 (444 + 61 * C + 0) = f 280 (444 + 61 * C + 0)) (h1 : f' 280 (444 + 61 * C + 1) = f 280 (444 + 61 * C + 1)) (h2 : f' 280 (444 + 61 * C + 2) = f 280 (444 + 61 * C + 2)) (h9 : f' 280 (444 + 61 * C + 9) = f 280 (444 + 61 * C + 9)) : r_voltsOf_v f' c C = r_voltsOf_v f c C := by
  unfold r_voltsOf_v r_calmVolts_v r_partOf_v
  rw [h5, h0, h1, h2, h9]
theorem r_pack_c {f f' : t2_F} {n : Nat} (h5 : f' 280 5 = f 280 5) (h : ∀ C : Nat, C < n → ∀ w : Nat, (w = 0 ∨ w = 1 ∨ w = 2 ∨ w = 9) → f' 280 (444 + 61 * C + w) = f 280 (444 + 61 * C + w)) : r_pack_a4 f' n = r_pack_a4 f n := by
  induction n with
  | zero => rfl
  | succ n ih =>
    show r_pack_a4 f' n + r_voltsOf_v f' (Int32.ofNat n) n = r_pack_a4 f n + r_voltsOf_v f (Int32.ofNat n) n
    rw [ih (fun C hC => h C (by omega)), r_volts_c h5 (h n (by omega) 0 (by omega)) (h n (by omega) 1 (by omega)) (h n (by omega) 2 (by omega)) (h n (by omega) 9 (by omega))]
/-! a cell behind the first loop -/
theorem r_f17_in {f : t2_F} {w : Nat} (hw : w < 61) : ∀ {k : Nat}, C < k → r_goMeasure_f17 f k 280 (444 + 61 * C + w) = r_goMeasure_b17_m (r_goMeasure_f17 f C) ((f 280 5) - (f 280 14)) C 280 (444 + 61 * C + w) := by
  intro k
  induction k with
  | zero => intro h; exact absurd h (Nat.not_lt_zero _)
  | succ k ih =>
    intro h
    by_cases e : C = k
    · subst e
      rfl
    · exact (r_goMeasure_b17_w (f := r_goMeasure_f17 f k) (k := k) (w := 444 + 61 * C + w) (by omega) (by omega) (by omega) (by omega)).trans (ih (by omega))
theorem r_f17_me {f : t2_F} {w : Nat} (hw : w < 61) : r_goMeasure_f17 f C 280 (444 + 61 * C + w) = f 280 (444 + 61 * C + w) := r_goMeasure_f17_w (k := C) (fun j hj => by omega) (fun j hj => by omega) (fun j hj => by omega) (fun j hj => by omega)
theorem r_f17_lo {f : t2_F} {k w : Nat} (hw : w < 444) : r_goMeasure_f17 f k 280 w = f 280 w := r_goMeasure_f17_w (k := k) (fun j hj => by omega) (fun j hj => by omega) (fun j hj => by omega) (fun j hj => by omega)
theorem r_f17_o {f : t2_F} {k w : Nat} (hw : w < 61) (h1 : w ≠ 11) (h2 : w ≠ 14) (h3 : w ≠ 15) (h4 : w ≠ 13) : r_goMeasure_f17 f k 280 (444 + 61 * C + w) = f 280 (444 + 61 * C + w) := r_goMeasure_f17_w (k := k) (fun j hj => by omega) (fun j hj => by omega) (fun j hj => by omega) (fun j hj => by omega)
theorem r_f17_w {f : t2_F} (hC : C < k) : r_goMeasure_f17 f k 280 (444 + 61 * C + 11) = r_goMeasure_b17_j41_0 f ((f 280 5) - (f 280 14)) C ∧ r_goMeasure_f17 f k 280 (444 + 61 * C + 14) = r_voltsOf_v f (Int32.ofNat C) C ∧ r_goMeasure_f17 f k 280 (444 + 61 * C + 15) = (1 : Int32) ∧ r_goMeasure_f17 f k 280 (444 + 61 * C + 13) = f 280 (444 + 61 * C + 13) + f 280 5 := by
  obtain ⟨h1, h2, h3, h4⟩ := r_b17_w (g := r_goMeasure_f17 f C) (z := (f 280 5) - (f 280 14)) (k := C)
  have ev : r_voltsOf_v (r_goMeasure_f17 f C) (Int32.ofNat C) C = r_voltsOf_v f (Int32.ofNat C) C := r_volts_c (r_f17_lo (by decide)) (r_f17_me (by decide)) (r_f17_me (by decide)) (r_f17_me (by decide)) (r_f17_me (by decide))
  refine ⟨?_, ?_, ?_, ?_⟩
  · rw [r_f17_in (by decide) hC, h1]
    unfold r_goMeasure_b17_j41_0
    rw [ev, r_f17_me (by decide), r_f17_me (by decide), r_f17_me (by decide)]
  · rw [r_f17_in (by decide) hC, h2, ev]
  · rw [r_f17_in (by decide) hC, h3]
  · rw [r_f17_in (by decide) hC, h4, r_f17_me (by decide), r_f17_lo (by decide)]
/-! and behind the second -/
theorem r_f163_in {f : t2_F} {w : Nat} (hw : w < 61) : ∀ {k : Nat}, C < k → r_goMeasure_f163 f k 280 (444 + 61 * C + w) = r_restNow_m (r_goMeasure_f163 f C) (Int32.ofNat C) C 280 (444 + 61 * C + w) := by
  intro k
  induction k with
  | zero => intro h; exact absurd h (Nat.not_lt_zero _)
  | succ k ih =>
    intro h
    by_cases e : C = k
    · subst e
      rfl
    · exact (r_goMeasure_b163_w (f := r_goMeasure_f163 f k) (z := (f 280 5) - (f 280 14)) (k := k) (w := 444 + 61 * C + w) (by omega) (by omega) (by omega) (by omega)).trans (ih (by omega))
theorem r_f163_me {f : t2_F} {w : Nat} (hw : w < 61) : r_goMeasure_f163 f C 280 (444 + 61 * C + w) = r_goMeasure_f17 f ((f 280 2).toInt.toNat) 280 (444 + 61 * C + w) := by
  rw [r_goMeasure_f163_w (k := C) (fun j hj => by omega) (fun j hj => by omega) (fun j hj => by omega) (fun j hj => by omega), fl_row_self, upd_ne (by omega), upd_ne (by omega)]
theorem r_f163_lo {f : t2_F} {k w : Nat} (hw : w < 444) (h9 : w ≠ 9) (h14 : w ≠ 14) : r_goMeasure_f163 f k 280 w = f 280 w := by
  rw [r_goMeasure_f163_w (k := k) (fun j hj => by omega) (fun j hj => by omega) (fun j hj => by omega) (fun j hj => by omega), fl_row_self, upd_ne h9, upd_ne h14, r_f17_lo hw]
theorem r_f163_o {f : t2_F} {k w : Nat} (hw : w < 61) (h1 : w ≠ 4) (h2 : w ≠ 12) (h3 : w ≠ 16) (h4 : w ≠ 13) : r_goMeasure_f163 f k 280 (444 + 61 * C + w) = r_goMeasure_f17 f ((f 280 2).toInt.toNat) 280 (444 + 61 * C + w) := by
  rw [r_goMeasure_f163_w (k := k) (fun j hj => by omega) (fun j hj => by omega) (fun j hj => by omega) (fun j hj => by omega), fl_row_self, upd_ne (by omega), upd_ne (by omega)]
end R6
